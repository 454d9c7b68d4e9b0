theorem dX9_stage_38 : decode cX9_stage 38 = .ok (.iload_n 3, 1) := by decide +kernel
theorem dX9_stage_39 : decode cX9_stage 39 = .ok (.bipush 64, 2) := by decide +kernel
theorem dX9_stage_41 : decode cX9_stage 41 = .ok (.invokestatic 61, 3) := by decide +kernel
theorem dX9_stage_44 : decode cX9_stage 44 = .ok (.ifCond .ne 6, 3) := by decide +kernel
theorem dX9_stage_47 : decode cX9_stage 47 = .ok (.bipush (-2), 2) := by decide +kernel
theorem dX9_stage_49 : decode cX9_stage 49 = .ok (.ireturn, 1) := by decide +kernel
theorem dX9_stage_50 : decode cX9_stage 50 = .ok (.aload_n 0, 1) := by decide +kernel
theorem dX9_stage_51 : decode cX9_stage 51 = .ok (.iload_n 1, 1) := by decide +kernel
theorem dX9_stage_52 : decode cX9_stage 52 = .ok (.iload_n 2, 1) := by decide +kernel
theorem dX9_stage_53 : decode cX9_stage 53 = .ok (.bipush (-9), 2) := by decide +kernel
theorem dX9_stage_55 : decode cX9_stage 55 = .ok (.iload_n 3, 1) := by decide +kernel
theorem dX9_stage_56 : decode cX9_stage 56 = .ok (.iload 4, 2) := by decide +kernel
theorem dX9_stage_58 : decode cX9_stage 58 = .ok (.iconst 0, 1) := by decide +kernel
theorem dX9_stage_59 : decode cX9_stage 59 = .ok (.invokevirtual 65, 3) := by decide +kernel
theorem dX9_stage_62 : decode cX9_stage 62 = .ok (.ireturn, 1) := by decide +kernel
theorem dX9_choice_0 : decode cX9_choice 0 = .ok (.aload_n 0, 1) := by decide +kernel
theorem dX9_choice_1 : decode cX9_choice 1 = .ok (.getfield 12, 3) := by decide +kernel
theorem dX9_choice_4 : decode cX9_choice 4 = .ok (.iload_n 1, 1) := by decide +kernel
theorem dX9_choice_5 : decode cX9_choice 5 = .ok (.invokevirtual 69, 3) := by decide +kernel
theorem dX9_choice_8 : decode cX9_choice 8 = .ok (.ifCond .eq 14, 3) := by decide +kernel
theorem dX9_choice_11 : decode cX9_choice 11 = .ok (.aload_n 0, 1) := by decide +kernel
theorem dX9_choice_12 : decode cX9_choice 12 = .ok (.getfield 12, 3) := by decide +kernel
theorem dX9_choice_15 : decode cX9_choice 15 = .ok (.iload_n 2, 1) := by decide +kernel
theorem dX9_choice_16 : decode cX9_choice 16 = .ok (.invokevirtual 69, 3) := by decide +kernel
theorem dX9_choice_19 : decode cX9_choice 19 = .ok (.ifCond .ne 5, 3) := by decide +kernel
theorem dX9_choice_22 : decode cX9_choice 22 = .ok (.iconst (-1), 1) := by decide +kernel
theorem dX9_choice_23 : decode cX9_choice 23 = .ok (.ireturn, 1) := by decide +kernel
theorem dX9_choice_24 : decode cX9_choice 24 = .ok (.aload_n 0, 1) := by decide +kernel
theorem dX9_choice_25 : decode cX9_choice 25 = .ok (.iconst 3, 1) := by decide +kernel
theorem dX9_choice_26 : decode cX9_choice 26 = .ok (.iload_n 1, 1) := by decide +kernel
theorem dX9_choice_27 : decode cX9_choice 27 = .ok (.iload_n 2, 1) := by decide +kernel
theorem dX9_choice_28 : decode cX9_choice 28 = .ok (.iconst 0, 1) := by decide +kernel
theorem dX9_choice_29 : decode cX9_choice 29 = .ok (.iconst 1, 1) := by decide +kernel
theorem dX9_choice_30 : decode cX9_choice 30 = .ok (.iconst 0, 1) := by decide +kernel
theorem dX9_choice_31 : decode cX9_choice 31 = .ok (.invokevirtual 65, 3) := by decide +kernel
theorem dX9_choice_34 : decode cX9_choice 34 = .ok (.ireturn, 1) := by decide +kernel
theorem dX9_gate_0 : decode cX9_gate 0 = .ok (.aload_n 0, 1) := by decide +kernel
theorem dX9_gate_1 : decode cX9_gate 1 = .ok (.getfield 12, 3) := by decide +kernel
theorem dX9_gate_4 : decode cX9_gate 4 = .ok (.iload_n 1, 1) := by decide +kernel
theorem dX9_gate_5 : decode cX9_gate 5 = .ok (.invokevirtual 69, 3) := by decide +kernel
theorem dX9_gate_8 : decode cX9_gate 8 = .ok (.ifCond .ne 5, 3) := by decide +kernel
theorem dX9_gate_11 : decode cX9_gate 11 = .ok (.iconst (-1), 1) := by decide +kernel
theorem dX9_gate_12 : decode cX9_gate 12 = .ok (.ireturn, 1) := by decide +kernel
theorem dX9_gate_13 : decode cX9_gate 13 = .ok (.aload_n 0, 1) := by decide +kernel
theorem dX9_gate_14 : decode cX9_gate 14 = .ok (.iconst 4, 1) := by decide +kernel
theorem dX9_gate_15 : decode cX9_gate 15 = .ok (.iload_n 1, 1) := by decide +kernel
theorem dX9_gate_16 : decode cX9_gate 16 = .ok (.bipush (-9), 2) := by decide +kernel
theorem dX9_gate_18 : decode cX9_gate 18 = .ok (.iconst 0, 1) := by decide +kernel
theorem dX9_gate_19 : decode cX9_gate 19 = .ok (.iconst 1, 1) := by decide +kernel
theorem dX9_gate_20 : decode cX9_gate 20 = .ok (.iconst 0, 1) := by decide +kernel
theorem dX9_gate_21 : decode cX9_gate 21 = .ok (.invokevirtual 65, 3) := by decide +kernel
theorem dX9_gate_24 : decode cX9_gate 24 = .ok (.ireturn, 1) := by decide +kernel
theorem dX9_limits_0 : decode cX9_limits 0 = .ok (.aload_n 0, 1) := by decide +kernel
theorem dX9_limits_1 : decode cX9_limits 1 = .ok (.getfield 12, 3) := by decide +kernel
theorem dX9_limits_4 : decode cX9_limits 4 = .ok (.iload_n 1, 1) := by decide +kernel
theorem dX9_limits_5 : decode cX9_limits 5 = .ok (.invokevirtual 69, 3) := by decide +kernel
theorem dX9_limits_8 : decode cX9_limits 8 = .ok (.ifCond .ne 5, 3) := by decide +kernel
theorem dX9_limits_11 : decode cX9_limits 11 = .ok (.iconst (-1), 1) := by decide +kernel
theorem dX9_limits_12 : decode cX9_limits 12 = .ok (.ireturn, 1) := by decide +kernel
theorem dX9_limits_13 : decode cX9_limits 13 = .ok (.iload_n 2, 1) := by decide +kernel
theorem dX9_limits_14 : decode cX9_limits 14 = .ok (.iconst 0, 1) := by decide +kernel
theorem dX9_limits_15 : decode cX9_limits 15 = .ok (.ldc 73, 2) := by decide +kernel
theorem dX9_limits_17 : decode cX9_limits 17 = .ok (.invokestatic 61, 3) := by decide +kernel
theorem dX9_limits_20 : decode cX9_limits 20 = .ok (.ifCond .eq 13, 3) := by decide +kernel
theorem dX9_limits_23 : decode cX9_limits 23 = .ok (.iload_n 3, 1) := by decide +kernel
theorem dX9_limits_24 : decode cX9_limits 24 = .ok (.iload_n 2, 1) := by decide +kernel
theorem dX9_limits_25 : decode cX9_limits 25 = .ok (.ldc 73, 2) := by decide +kernel
theorem dX9_limits_27 : decode cX9_limits 27 = .ok (.invokestatic 61, 3) := by decide +kernel
theorem dX9_limits_30 : decode cX9_limits 30 = .ok (.ifCond .ne 6, 3) := by decide +kernel
theorem dX9_limits_33 : decode cX9_limits 33 = .ok (.bipush (-2), 2) := by decide +kernel
theorem dX9_limits_35 : decode cX9_limits 35 = .ok (.ireturn, 1) := by decide +kernel
theorem dX9_limits_36 : decode cX9_limits 36 = .ok (.aload_n 0, 1) := by decide +kernel
theorem dX9_limits_37 : decode cX9_limits 37 = .ok (.getfield 12, 3) := by decide +kernel
theorem dX9_limits_40 : decode cX9_limits 40 = .ok (.getfield 74, 3) := by decide +kernel
theorem dX9_limits_43 : decode cX9_limits 43 = .ok (.iload_n 1, 1) := by decide +kernel
theorem dX9_limits_44 : decode cX9_limits 44 = .ok (.aaload, 1) := by decide +kernel
theorem dX9_limits_45 : decode cX9_limits 45 = .ok (.iload_n 2, 1) := by decide +kernel
theorem dX9_limits_46 : decode cX9_limits 46 = .ok (.putfield 78, 3) := by decide +kernel
theorem dX9_limits_49 : decode cX9_limits 49 = .ok (.aload_n 0, 1) := by decide +kernel
theorem dX9_limits_50 : decode cX9_limits 50 = .ok (.getfield 12, 3) := by decide +kernel
theorem dX9_limits_53 : decode cX9_limits 53 = .ok (.getfield 74, 3) := by decide +kernel
theorem dX9_limits_56 : decode cX9_limits 56 = .ok (.iload_n 1, 1) := by decide +kernel
theorem dX9_limits_57 : decode cX9_limits 57 = .ok (.aaload, 1) := by decide +kernel
theorem dX9_limits_58 : decode cX9_limits 58 = .ok (.iload_n 3, 1) := by decide +kernel
theorem dX9_limits_59 : decode cX9_limits 59 = .ok (.putfield 84, 3) := by decide +kernel
theorem dX9_limits_62 : decode cX9_limits 62 = .ok (.aload_n 0, 1) := by decide +kernel
theorem dX9_limits_63 : decode cX9_limits 63 = .ok (.getfield 49, 3) := by decide +kernel
theorem dX9_limits_66 : decode cX9_limits 66 = .ok (.invokevirtual 87, 3) := by decide +kernel
theorem dX9_limits_69 : decode cX9_limits 69 = .ok (.iconst 1, 1) := by decide +kernel
theorem dX9_limits_70 : decode cX9_limits 70 = .ok (.ireturn, 1) := by decide +kernel
theorem dX9_set_0 : decode cX9_set 0 = .ok (.aload_n 0, 1) := by decide +kernel
theorem dX9_set_1 : decode cX9_set 1 = .ok (.getfield 12, 3) := by decide +kernel
theorem dX9_set_4 : decode cX9_set 4 = .ok (.iload_n 1, 1) := by decide +kernel
theorem dX9_set_5 : decode cX9_set 5 = .ok (.invokevirtual 69, 3) := by decide +kernel
theorem dX9_set_8 : decode cX9_set 8 = .ok (.ifCond .ne 5, 3) := by decide +kernel
theorem dX9_set_11 : decode cX9_set 11 = .ok (.iconst (-1), 1) := by decide +kernel
theorem dX9_set_12 : decode cX9_set 12 = .ok (.ireturn, 1) := by decide +kernel
theorem dX9_set_13 : decode cX9_set 13 = .ok (.aload_n 0, 1) := by decide +kernel
theorem dX9_set_14 : decode cX9_set 14 = .ok (.getfield 12, 3) := by decide +kernel
theorem dX9_set_17 : decode cX9_set 17 = .ok (.getfield 74, 3) := by decide +kernel
theorem dX9_set_20 : decode cX9_set 20 = .ok (.iload_n 1, 1) := by decide +kernel
theorem dX9_set_21 : decode cX9_set 21 = .ok (.aaload, 1) := by decide +kernel
theorem dX9_set_22 : decode cX9_set 22 = .ok (.iload_n 2, 1) := by decide +kernel
theorem dX9_set_23 : decode cX9_set 23 = .ok (.invokevirtual 90, 3) := by decide +kernel
theorem dX9_set_26 : decode cX9_set 26 = .ok (.ifCond .ne 6, 3) := by decide +kernel
theorem dX9_set_29 : decode cX9_set 29 = .ok (.bipush (-2), 2) := by decide +kernel
theorem dX9_set_31 : decode cX9_set 31 = .ok (.ireturn, 1) := by decide +kernel
theorem dX9_set_32 : decode cX9_set 32 = .ok (.aload_n 0, 1) := by decide +kernel
theorem dX9_set_33 : decode cX9_set 33 = .ok (.getfield 12, 3) := by decide +kernel
theorem dX9_set_36 : decode cX9_set 36 = .ok (.getfield 74, 3) := by decide +kernel
theorem dX9_set_39 : decode cX9_set 39 = .ok (.iload_n 1, 1) := by decide +kernel
theorem dX9_set_40 : decode cX9_set 40 = .ok (.aaload, 1) := by decide +kernel
theorem dX9_set_41 : decode cX9_set 41 = .ok (.getfield 93, 3) := by decide +kernel
theorem dX9_set_44 : decode cX9_set 44 = .ok (.ifCond .eq 6, 3) := by decide +kernel
theorem dX9_set_47 : decode cX9_set 47 = .ok (.bipush (-3), 2) := by decide +kernel
theorem dX9_set_49 : decode cX9_set 49 = .ok (.ireturn, 1) := by decide +kernel
theorem dX9_set_50 : decode cX9_set 50 = .ok (.aload_n 0, 1) := by decide +kernel
theorem dX9_set_51 : decode cX9_set 51 = .ok (.getfield 12, 3) := by decide +kernel
theorem dX9_set_54 : decode cX9_set 54 = .ok (.getfield 97, 3) := by decide +kernel
theorem dX9_set_57 : decode cX9_set 57 = .ok (.iload_n 1, 1) := by decide +kernel
theorem dX9_set_58 : decode cX9_set 58 = .ok (.iaload, 1) := by decide +kernel
theorem dX9_set_59 : decode cX9_set 59 = .ok (.istore_n 3, 1) := by decide +kernel
theorem dX9_set_60 : decode cX9_set 60 = .ok (.aload_n 0, 1) := by decide +kernel
theorem dX9_set_61 : decode cX9_set 61 = .ok (.getfield 12, 3) := by decide +kernel
theorem dX9_set_64 : decode cX9_set 64 = .ok (.getfield 97, 3) := by decide +kernel
theorem dX9_set_67 : decode cX9_set 67 = .ok (.iload_n 1, 1) := by decide +kernel
theorem dX9_set_68 : decode cX9_set 68 = .ok (.iload_n 2, 1) := by decide +kernel
theorem dX9_set_69 : decode cX9_set 69 = .ok (.iastore, 1) := by decide +kernel
theorem dX9_set_70 : decode cX9_set 70 = .ok (.aload_n 0, 1) := by decide +kernel
theorem dX9_set_71 : decode cX9_set 71 = .ok (.getfield 49, 3) := by decide +kernel
theorem dX9_set_74 : decode cX9_set 74 = .ok (.invokevirtual 87, 3) := by decide +kernel
theorem dX9_set_77 : decode cX9_set 77 = .ok (.iload_n 3, 1) := by decide +kernel
theorem dX9_set_78 : decode cX9_set 78 = .ok (.ireturn, 1) := by decide +kernel
theorem dX9_lock_0 : decode cX9_lock 0 = .ok (.aload_n 0, 1) := by decide +kernel
theorem dX9_lock_1 : decode cX9_lock 1 = .ok (.getfield 12, 3) := by decide +kernel
theorem dX9_lock_4 : decode cX9_lock 4 = .ok (.iload_n 1, 1) := by decide +kernel
theorem dX9_lock_5 : decode cX9_lock 5 = .ok (.invokevirtual 69, 3) := by decide +kernel
theorem dX9_lock_8 : decode cX9_lock 8 = .ok (.ifCond .ne 5, 3) := by decide +kernel
theorem dX9_lock_11 : decode cX9_lock 11 = .ok (.iconst (-1), 1) := by decide +kernel
theorem dX9_lock_12 : decode cX9_lock 12 = .ok (.ireturn, 1) := by decide +kernel
theorem dX9_lock_13 : decode cX9_lock 13 = .ok (.aload_n 0, 1) := by decide +kernel
theorem dX9_lock_14 : decode cX9_lock 14 = .ok (.getfield 49, 3) := by decide +kernel
theorem dX9_lock_17 : decode cX9_lock 17 = .ok (.invokevirtual 87, 3) := by decide +kernel
theorem dX9_lock_20 : decode cX9_lock 20 = .ok (.aload_n 0, 1) := by decide +kernel
theorem dX9_lock_21 : decode cX9_lock 21 = .ok (.getfield 12, 3) := by decide +kernel
theorem dX9_lock_24 : decode cX9_lock 24 = .ok (.getfield 74, 3) := by decide +kernel
theorem dX9_lock_27 : decode cX9_lock 27 = .ok (.iload_n 1, 1) := by decide +kernel
theorem dX9_lock_28 : decode cX9_lock 28 = .ok (.aaload, 1) := by decide +kernel
theorem dX9_lock_29 : decode cX9_lock 29 = .ok (.getfield 93, 3) := by decide +kernel
theorem dX9_lock_32 : decode cX9_lock 32 = .ok (.iload_n 2, 1) := by decide +kernel
theorem dX9_lock_33 : decode cX9_lock 33 = .ok (.if_icmp .ne 5, 3) := by decide +kernel
theorem dX9_lock_36 : decode cX9_lock 36 = .ok (.iconst 0, 1) := by decide +kernel
theorem dX9_lock_37 : decode cX9_lock 37 = .ok (.ireturn, 1) := by decide +kernel
theorem dX9_lock_38 : decode cX9_lock 38 = .ok (.aload_n 0, 1) := by decide +kernel
theorem dX9_lock_39 : decode cX9_lock 39 = .ok (.getfield 12, 3) := by decide +kernel
theorem dX9_lock_42 : decode cX9_lock 42 = .ok (.getfield 74, 3) := by decide +kernel
theorem dX9_lock_45 : decode cX9_lock 45 = .ok (.iload_n 1, 1) := by decide +kernel
theorem dX9_lock_46 : decode cX9_lock 46 = .ok (.aaload, 1) := by decide +kernel
theorem dX9_lock_47 : decode cX9_lock 47 = .ok (.iload_n 2, 1) := by decide +kernel
theorem dX9_lock_48 : decode cX9_lock 48 = .ok (.putfield 93, 3) := by decide +kernel
theorem dX9_lock_51 : decode cX9_lock 51 = .ok (.iconst 1, 1) := by decide +kernel
theorem dX9_lock_52 : decode cX9_lock 52 = .ok (.ireturn, 1) := by decide +kernel
theorem dX9_rate_0 : decode cX9_rate 0 = .ok (.aload_n 0, 1) := by decide +kernel
theorem dX9_rate_1 : decode cX9_rate 1 = .ok (.getfield 12, 3) := by decide +kernel
theorem dX9_rate_4 : decode cX9_rate 4 = .ok (.iload_n 1, 1) := by decide +kernel
theorem dX9_rate_5 : decode cX9_rate 5 = .ok (.invokevirtual 69, 3) := by decide +kernel
theorem dX9_rate_8 : decode cX9_rate 8 = .ok (.ifCond .eq 12, 3) := by decide +kernel
theorem dX9_rate_11 : decode cX9_rate 11 = .ok (.iload_n 2, 1) := by decide +kernel
theorem dX9_rate_12 : decode cX9_rate 12 = .ok (.iconst 0, 1) := by decide +kernel
theorem dX9_rate_13 : decode cX9_rate 13 = .ok (.iconst 1, 1) := by decide +kernel
theorem dX9_rate_14 : decode cX9_rate 14 = .ok (.invokestatic 61, 3) := by decide +kernel
theorem dX9_rate_17 : decode cX9_rate 17 = .ok (.ifCond .ne 7, 3) := by decide +kernel
theorem dX9_rate_20 : decode cX9_rate 20 = .ok (.ldc2_w 101, 3) := by decide +kernel
theorem dX9_rate_23 : decode cX9_rate 23 = .ok (.lreturn, 1) := by decide +kernel
theorem dX9_rate_24 : decode cX9_rate 24 = .ok (.aload_n 0, 1) := by decide +kernel
theorem dX9_rate_25 : decode cX9_rate 25 = .ok (.getfield 21, 3) := by decide +kernel
theorem dX9_rate_28 : decode cX9_rate 28 = .ok (.aload_n 0, 1) := by decide +kernel
theorem dX9_rate_29 : decode cX9_rate 29 = .ok (.getfield 12, 3) := by decide +kernel
theorem dX9_rate_32 : decode cX9_rate 32 = .ok (.aload_n 0, 1) := by decide +kernel
theorem dX9_rate_33 : decode cX9_rate 33 = .ok (.getfield 12, 3) := by decide +kernel
theorem dX9_rate_36 : decode cX9_rate 36 = .ok (.getfield 97, 3) := by decide +kernel
theorem dX9_rate_39 : decode cX9_rate 39 = .ok (.invokevirtual 103, 3) := by decide +kernel
theorem dX9_rate_42 : decode cX9_rate 42 = .ok (.aload_n 0, 1) := by decide +kernel
theorem dX9_rate_43 : decode cX9_rate 43 = .ok (.getfield 21, 3) := by decide +kernel
theorem dX9_rate_46 : decode cX9_rate 46 = .ok (.iload_n 1, 1) := by decide +kernel
theorem dX9_rate_47 : decode cX9_rate 47 = .ok (.invokevirtual 107, 3) := by decide +kernel
theorem dX9_rate_50 : decode cX9_rate 50 = .ok (.ifCond .eq 7, 3) := by decide +kernel
theorem dX9_rate_53 : decode cX9_rate 53 = .ok (.ldc2_w 101, 3) := by decide +kernel
theorem dX9_rate_56 : decode cX9_rate 56 = .ok (.lreturn, 1) := by decide +kernel
theorem dX9_rate_57 : decode cX9_rate 57 = .ok (.iload_n 2, 1) := by decide +kernel
theorem dX9_rate_58 : decode cX9_rate 58 = .ok (.ifCond .ne 15, 3) := by decide +kernel
theorem dX9_rate_61 : decode cX9_rate 61 = .ok (.aload_n 0, 1) := by decide +kernel
theorem dX9_rate_62 : decode cX9_rate 62 = .ok (.getfield 21, 3) := by decide +kernel
theorem dX9_rate_65 : decode cX9_rate 65 = .ok (.getfield 110, 3) := by decide +kernel
theorem dX9_rate_68 : decode cX9_rate 68 = .ok (.iload_n 1, 1) := by decide +kernel
theorem dX9_rate_69 : decode cX9_rate 69 = .ok (.laload, 1) := by decide +kernel
theorem dX9_rate_70 : decode cX9_rate 70 = .ok (.goto 12, 3) := by decide +kernel
theorem dX9_rate_73 : decode cX9_rate 73 = .ok (.aload_n 0, 1) := by decide +kernel
theorem dX9_rate_74 : decode cX9_rate 74 = .ok (.getfield 21, 3) := by decide +kernel
theorem dX9_rate_77 : decode cX9_rate 77 = .ok (.getfield 114, 3) := by decide +kernel
theorem dX9_rate_80 : decode cX9_rate 80 = .ok (.iload_n 1, 1) := by decide +kernel
theorem dX9_rate_81 : decode cX9_rate 81 = .ok (.laload, 1) := by decide +kernel
theorem dX9_rate_82 : decode cX9_rate 82 = .ok (.lreturn, 1) := by decide +kernel
theorem dX9_about_0 : decode cX9_about 0 = .ok (.aload_n 0, 1) := by decide +kernel
theorem dX9_about_1 : decode cX9_about 1 = .ok (.getfield 12, 3) := by decide +kernel
theorem dX9_about_4 : decode cX9_about 4 = .ok (.iload_n 1, 1) := by decide +kernel
theorem dX9_about_5 : decode cX9_about 5 = .ok (.invokevirtual 69, 3) := by decide +kernel
theorem dX9_about_8 : decode cX9_about 8 = .ok (.ifCond .ne 5, 3) := by decide +kernel
theorem dX9_about_11 : decode cX9_about 11 = .ok (.iconst (-1), 1) := by decide +kernel
theorem dX9_about_12 : decode cX9_about 12 = .ok (.ireturn, 1) := by decide +kernel
theorem dX9_about_13 : decode cX9_about 13 = .ok (.aload_n 0, 1) := by decide +kernel
theorem dX9_about_14 : decode cX9_about 14 = .ok (.getfield 12, 3) := by decide +kernel
theorem dX9_about_17 : decode cX9_about 17 = .ok (.getfield 74, 3) := by decide +kernel
theorem dX9_about_20 : decode cX9_about 20 = .ok (.iload_n 1, 1) := by decide +kernel
theorem dX9_about_21 : decode cX9_about 21 = .ok (.aaload, 1) := by decide +kernel
theorem dX9_about_22 : decode cX9_about 22 = .ok (.astore_n 3, 1) := by decide +kernel
theorem dX9_about_23 : decode cX9_about 23 = .ok (.iload_n 2, 1) := by decide +kernel
theorem dX9_about_24 : decode cX9_about 24 = .ok (.tableswitch 128 0 9 #[56, 61, 66, 71, 81, 86, 91, 104, 118, 123], 56) := by decide +kernel
theorem dX9_about_80 : decode cX9_about 80 = .ok (.aload_n 3, 1) := by decide +kernel
theorem dX9_about_81 : decode cX9_about 81 = .ok (.getfield 117, 3) := by decide +kernel
theorem dX9_about_84 : decode cX9_about 84 = .ok (.ireturn, 1) := by decide +kernel
theorem dX9_about_85 : decode cX9_about 85 = .ok (.aload_n 3, 1) := by decide +kernel
theorem dX9_about_86 : decode cX9_about 86 = .ok (.getfield 120, 3) := by decide +kernel
theorem dX9_about_89 : decode cX9_about 89 = .ok (.ireturn, 1) := by decide +kernel
theorem dX9_about_90 : decode cX9_about 90 = .ok (.aload_n 3, 1) := by decide +kernel
theorem dX9_about_91 : decode cX9_about 91 = .ok (.getfield 123, 3) := by decide +kernel
theorem dX9_about_94 : decode cX9_about 94 = .ok (.ireturn, 1) := by decide +kernel
theorem dX9_about_95 : decode cX9_about 95 = .ok (.aload_n 0, 1) := by decide +kernel
theorem dX9_about_96 : decode cX9_about 96 = .ok (.getfield 12, 3) := by decide +kernel
theorem dX9_about_99 : decode cX9_about 99 = .ok (.getfield 97, 3) := by decide +kernel
theorem dX9_about_102 : decode cX9_about 102 = .ok (.iload_n 1, 1) := by decide +kernel
theorem dX9_about_103 : decode cX9_about 103 = .ok (.iaload, 1) := by decide +kernel
theorem dX9_about_104 : decode cX9_about 104 = .ok (.ireturn, 1) := by decide +kernel
theorem dX9_about_105 : decode cX9_about 105 = .ok (.aload_n 3, 1) := by decide +kernel
theorem dX9_about_106 : decode cX9_about 106 = .ok (.getfield 126, 3) := by decide +kernel
theorem dX9_about_109 : decode cX9_about 109 = .ok (.ireturn, 1) := by decide +kernel
theorem dX9_about_110 : decode cX9_about 110 = .ok (.aload_n 3, 1) := by decide +kernel
theorem dX9_about_111 : decode cX9_about 111 = .ok (.getfield 129, 3) := by decide +kernel
theorem dX9_about_114 : decode cX9_about 114 = .ok (.ireturn, 1) := by decide +kernel
theorem dX9_about_115 : decode cX9_about 115 = .ok (.aload_n 3, 1) := by decide +kernel
theorem dX9_about_116 : decode cX9_about 116 = .ok (.getfield 93, 3) := by decide +kernel
theorem dX9_about_119 : decode cX9_about 119 = .ok (.ifCond .eq 7, 3) := by decide +kernel
theorem dX9_about_122 : decode cX9_about 122 = .ok (.iconst 1, 1) := by decide +kernel
theorem dX9_about_123 : decode cX9_about 123 = .ok (.goto 4, 3) := by decide +kernel
theorem dX9_about_126 : decode cX9_about 126 = .ok (.iconst 0, 1) := by decide +kernel
theorem dX9_about_127 : decode cX9_about 127 = .ok (.ireturn, 1) := by decide +kernel
theorem dX9_about_128 : decode cX9_about 128 = .ok (.aload_n 0, 1) := by decide +kernel
theorem dX9_about_129 : decode cX9_about 129 = .ok (.iload_n 1, 1) := by decide +kernel
theorem dX9_about_130 : decode cX9_about 130 = .ok (.invokevirtual 132, 3) := by decide +kernel
theorem dX9_about_133 : decode cX9_about 133 = .ok (.ifCond .eq 7, 3) := by decide +kernel
theorem dX9_about_136 : decode cX9_about 136 = .ok (.iconst 1, 1) := by decide +kernel
theorem dX9_about_137 : decode cX9_about 137 = .ok (.goto 4, 3) := by decide +kernel
theorem dX9_about_140 : decode cX9_about 140 = .ok (.iconst 0, 1) := by decide +kernel
theorem dX9_about_141 : decode cX9_about 141 = .ok (.ireturn, 1) := by decide +kernel
theorem dX9_about_142 : decode cX9_about 142 = .ok (.aload_n 3, 1) := by decide +kernel
theorem dX9_about_143 : decode cX9_about 143 = .ok (.getfield 78, 3) := by decide +kernel
theorem dX9_about_146 : decode cX9_about 146 = .ok (.ireturn, 1) := by decide +kernel
theorem dX9_about_147 : decode cX9_about 147 = .ok (.aload_n 3, 1) := by decide +kernel
theorem dX9_about_148 : decode cX9_about 148 = .ok (.getfield 84, 3) := by decide +kernel
theorem dX9_about_151 : decode cX9_about 151 = .ok (.ireturn, 1) := by decide +kernel
theorem dX9_about_152 : decode cX9_about 152 = .ok (.bipush (-2), 2) := by decide +kernel
theorem dX9_about_154 : decode cX9_about 154 = .ok (.ireturn, 1) := by decide +kernel
theorem dX9_sound_0 : decode cX9_sound 0 = .ok (.aload_n 0, 1) := by decide +kernel
theorem dX9_sound_1 : decode cX9_sound 1 = .ok (.getfield 21, 3) := by decide +kernel
theorem dX9_sound_4 : decode cX9_sound 4 = .ok (.aload_n 0, 1) := by decide +kernel
theorem dX9_sound_5 : decode cX9_sound 5 = .ok (.getfield 12, 3) := by decide +kernel
theorem dX9_sound_8 : decode cX9_sound 8 = .ok (.aload_n 0, 1) := by decide +kernel
theorem dX9_sound_9 : decode cX9_sound 9 = .ok (.getfield 12, 3) := by decide +kernel
theorem dX9_sound_12 : decode cX9_sound 12 = .ok (.getfield 97, 3) := by decide +kernel
theorem dX9_sound_15 : decode cX9_sound 15 = .ok (.invokevirtual 135, 3) := by decide +kernel
theorem dX9_sound_18 : decode cX9_sound 18 = .ok (.ifCond .eq 7, 3) := by decide +kernel
theorem dX9_sound_21 : decode cX9_sound 21 = .ok (.iconst 1, 1) := by decide +kernel
theorem dX9_sound_22 : decode cX9_sound 22 = .ok (.goto 4, 3) := by decide +kernel
theorem dX9_sound_25 : decode cX9_sound 25 = .ok (.iconst 0, 1) := by decide +kernel
theorem dX9_sound_26 : decode cX9_sound 26 = .ok (.ireturn, 1) := by decide +kernel
theorem dX9_power_0 : decode cX9_power 0 = .ok (.aload_n 0, 1) := by decide +kernel
theorem dX9_power_1 : decode cX9_power 1 = .ok (.getfield 21, 3) := by decide +kernel
theorem dX9_power_4 : decode cX9_power 4 = .ok (.aload_n 0, 1) := by decide +kernel
theorem dX9_power_5 : decode cX9_power 5 = .ok (.getfield 12, 3) := by decide +kernel
theorem dX9_power_8 : decode cX9_power 8 = .ok (.aload_n 0, 1) := by decide +kernel
theorem dX9_power_9 : decode cX9_power 9 = .ok (.getfield 12, 3) := by decide +kernel
theorem dX9_power_12 : decode cX9_power 12 = .ok (.getfield 97, 3) := by decide +kernel
theorem dX9_power_15 : decode cX9_power 15 = .ok (.invokevirtual 103, 3) := by decide +kernel
theorem dX9_power_18 : decode cX9_power 18 = .ok (.lconst 0, 1) := by decide +kernel
theorem dX9_power_19 : decode cX9_power 19 = .ok (.lstore_n 1, 1) := by decide +kernel
theorem dX9_power_20 : decode cX9_power 20 = .ok (.iconst 0, 1) := by decide +kernel
theorem dX9_power_21 : decode cX9_power 21 = .ok (.istore_n 3, 1) := by decide +kernel
theorem dX9_power_22 : decode cX9_power 22 = .ok (.iload_n 3, 1) := by decide +kernel
theorem dX9_power_23 : decode cX9_power 23 = .ok (.aload_n 0, 1) := by decide +kernel
theorem dX9_power_24 : decode cX9_power 24 = .ok (.getfield 12, 3) := by decide +kernel
theorem dX9_power_27 : decode cX9_power 27 = .ok (.getfield 139, 3) := by decide +kernel
theorem dX9_power_30 : decode cX9_power 30 = .ok (.if_icmp .ge 35, 3) := by decide +kernel
theorem dX9_power_33 : decode cX9_power 33 = .ok (.aload_n 0, 1) := by decide +kernel
theorem dX9_power_34 : decode cX9_power 34 = .ok (.getfield 21, 3) := by decide +kernel
theorem dX9_power_37 : decode cX9_power 37 = .ok (.iload_n 3, 1) := by decide +kernel
theorem dX9_power_38 : decode cX9_power 38 = .ok (.invokevirtual 107, 3) := by decide +kernel
theorem dX9_power_41 : decode cX9_power 41 = .ok (.ifCond .eq 7, 3) := by decide +kernel
theorem dX9_power_44 : decode cX9_power 44 = .ok (.ldc2_w 101, 3) := by decide +kernel
theorem dX9_power_47 : decode cX9_power 47 = .ok (.lreturn, 1) := by decide +kernel
theorem dX9_power_48 : decode cX9_power 48 = .ok (.lload_n 1, 1) := by decide +kernel
theorem dX9_power_49 : decode cX9_power 49 = .ok (.aload_n 0, 1) := by decide +kernel
theorem dX9_power_50 : decode cX9_power 50 = .ok (.getfield 21, 3) := by decide +kernel
theorem dX9_power_53 : decode cX9_power 53 = .ok (.iload_n 3, 1) := by decide +kernel
theorem dX9_power_54 : decode cX9_power 54 = .ok (.invokevirtual 142, 3) := by decide +kernel
theorem dX9_power_57 : decode cX9_power 57 = .ok (.ladd, 1) := by decide +kernel
theorem dX9_power_58 : decode cX9_power 58 = .ok (.lstore_n 1, 1) := by decide +kernel
theorem dX9_power_59 : decode cX9_power 59 = .ok (.iinc 3 1, 3) := by decide +kernel
theorem dX9_power_62 : decode cX9_power 62 = .ok (.goto (-40), 3) := by decide +kernel
theorem dX9_power_65 : decode cX9_power 65 = .ok (.lload_n 1, 1) := by decide +kernel
theorem dX9_power_66 : decode cX9_power 66 = .ok (.lreturn, 1) := by decide +kernel
theorem dX9_wish_0 : decode cX9_wish 0 = .ok (.iload_n 1, 1) := by decide +kernel
theorem dX9_wish_1 : decode cX9_wish 1 = .ok (.invokestatic 146, 3) := by decide +kernel
theorem dX9_wish_4 : decode cX9_wish 4 = .ok (.ifCond .eq 14, 3) := by decide +kernel
theorem dX9_wish_7 : decode cX9_wish 7 = .ok (.aload_n 0, 1) := by decide +kernel
theorem dX9_wish_8 : decode cX9_wish 8 = .ok (.getfield 12, 3) := by decide +kernel
theorem dX9_wish_11 : decode cX9_wish 11 = .ok (.iload_n 2, 1) := by decide +kernel
theorem dX9_wish_12 : decode cX9_wish 12 = .ok (.invokevirtual 69, 3) := by decide +kernel
theorem dX9_wish_15 : decode cX9_wish 15 = .ok (.ifCond .ne 5, 3) := by decide +kernel
theorem dX9_wish_18 : decode cX9_wish 18 = .ok (.iconst (-1), 1) := by decide +kernel
theorem dX9_wish_19 : decode cX9_wish 19 = .ok (.ireturn, 1) := by decide +kernel
theorem dX9_wish_20 : decode cX9_wish 20 = .ok (.iload_n 3, 1) := by decide +kernel
theorem dX9_wish_21 : decode cX9_wish 21 = .ok (.iconst 1, 1) := by decide +kernel
theorem dX9_wish_22 : decode cX9_wish 22 = .ok (.ldc 60, 2) := by decide +kernel
theorem dX9_wish_24 : decode cX9_wish 24 = .ok (.invokestatic 61, 3) := by decide +kernel
theorem dX9_wish_27 : decode cX9_wish 27 = .ok (.ifCond .eq 27, 3) := by decide +kernel
theorem dX9_wish_30 : decode cX9_wish 30 = .ok (.iload 4, 2) := by decide +kernel
theorem dX9_wish_32 : decode cX9_wish 32 = .ok (.iconst 1, 1) := by decide +kernel
theorem dX9_wish_33 : decode cX9_wish 33 = .ok (.sipush 1000, 3) := by decide +kernel
theorem dX9_wish_36 : decode cX9_wish 36 = .ok (.invokestatic 61, 3) := by decide +kernel
theorem dX9_wish_39 : decode cX9_wish 39 = .ok (.ifCond .eq 15, 3) := by decide +kernel
theorem dX9_wish_42 : decode cX9_wish 42 = .ok (.iload 5, 2) := by decide +kernel
theorem dX9_wish_44 : decode cX9_wish 44 = .ok (.iconst 0, 1) := by decide +kernel
theorem dX9_wish_45 : decode cX9_wish 45 = .ok (.sipush 999, 3) := by decide +kernel
theorem dX9_wish_48 : decode cX9_wish 48 = .ok (.invokestatic 61, 3) := by decide +kernel
theorem dX9_wish_51 : decode cX9_wish 51 = .ok (.ifCond .ne 6, 3) := by decide +kernel
theorem dX9_wish_54 : decode cX9_wish 54 = .ok (.bipush (-2), 2) := by decide +kernel
theorem dX9_wish_56 : decode cX9_wish 56 = .ok (.ireturn, 1) := by decide +kernel
theorem dX9_wish_57 : decode cX9_wish 57 = .ok (.aload_n 0, 1) := by decide +kernel
theorem dX9_wish_58 : decode cX9_wish 58 = .ok (.getfield 28, 3) := by decide +kernel
theorem dX9_wish_61 : decode cX9_wish 61 = .ok (.iconst 0, 1) := by decide +kernel
theorem dX9_wish_62 : decode cX9_wish 62 = .ok (.iload_n 1, 1) := by decide +kernel
theorem dX9_wish_63 : decode cX9_wish 63 = .ok (.iload_n 2, 1) := by decide +kernel
theorem dX9_wish_64 : decode cX9_wish 64 = .ok (.iload_n 3, 1) := by decide +kernel
theorem dX9_wish_65 : decode cX9_wish 65 = .ok (.iload 4, 2) := by decide +kernel
theorem dX9_wish_67 : decode cX9_wish 67 = .ok (.iload 5, 2) := by decide +kernel
theorem dX9_wish_69 : decode cX9_wish 69 = .ok (.invokevirtual 149, 3) := by decide +kernel
theorem dX9_wish_72 : decode cX9_wish 72 = .ok (.ireturn, 1) := by decide +kernel
theorem dX9_multiple_0 : decode cX9_multiple 0 = .ok (.iload_n 1, 1) := by decide +kernel
theorem dX9_multiple_1 : decode cX9_multiple 1 = .ok (.invokestatic 146, 3) := by decide +kernel
theorem dX9_multiple_4 : decode cX9_multiple 4 = .ok (.ifCond .eq 25, 3) := by decide +kernel
theorem dX9_multiple_7 : decode cX9_multiple 7 = .ok (.aload_n 0, 1) := by decide +kernel
theorem dX9_multiple_8 : decode cX9_multiple 8 = .ok (.getfield 12, 3) := by decide +kernel
theorem dX9_multiple_11 : decode cX9_multiple 11 = .ok (.iload_n 2, 1) := by decide +kernel
theorem dX9_multiple_12 : decode cX9_multiple 12 = .ok (.invokevirtual 69, 3) := by decide +kernel
theorem dX9_multiple_15 : decode cX9_multiple 15 = .ok (.ifCond .eq 14, 3) := by decide +kernel
theorem dX9_multiple_18 : decode cX9_multiple 18 = .ok (.aload_n 0, 1) := by decide +kernel
theorem dX9_multiple_19 : decode cX9_multiple 19 = .ok (.getfield 12, 3) := by decide +kernel
theorem dX9_multiple_22 : decode cX9_multiple 22 = .ok (.iload_n 3, 1) := by decide +kernel
theorem dX9_multiple_23 : decode cX9_multiple 23 = .ok (.invokevirtual 69, 3) := by decide +kernel
theorem dX9_multiple_26 : decode cX9_multiple 26 = .ok (.ifCond .ne 5, 3) := by decide +kernel
theorem dX9_multiple_29 : decode cX9_multiple 29 = .ok (.iconst (-1), 1) := by decide +kernel
theorem dX9_multiple_30 : decode cX9_multiple 30 = .ok (.ireturn, 1) := by decide +kernel
theorem dX9_multiple_31 : decode cX9_multiple 31 = .ok (.iload 4, 2) := by decide +kernel
theorem dX9_multiple_33 : decode cX9_multiple 33 = .ok (.iconst 1, 1) := by decide +kernel
theorem dX9_multiple_34 : decode cX9_multiple 34 = .ok (.bipush 100, 2) := by decide +kernel
theorem dX9_multiple_36 : decode cX9_multiple 36 = .ok (.invokestatic 61, 3) := by decide +kernel
theorem dX9_multiple_39 : decode cX9_multiple 39 = .ok (.ifCond .eq 8, 3) := by decide +kernel
theorem dX9_multiple_42 : decode cX9_multiple 42 = .ok (.iload_n 2, 1) := by decide +kernel
theorem dX9_multiple_43 : decode cX9_multiple 43 = .ok (.iload_n 3, 1) := by decide +kernel
theorem dX9_multiple_44 : decode cX9_multiple 44 = .ok (.if_icmp .ne 6, 3) := by decide +kernel
theorem dX9_multiple_47 : decode cX9_multiple 47 = .ok (.bipush (-2), 2) := by decide +kernel
theorem dX9_multiple_49 : decode cX9_multiple 49 = .ok (.ireturn, 1) := by decide +kernel
theorem dX9_multiple_50 : decode cX9_multiple 50 = .ok (.aload_n 0, 1) := by decide +kernel
theorem dX9_multiple_51 : decode cX9_multiple 51 = .ok (.getfield 28, 3) := by decide +kernel
theorem dX9_multiple_54 : decode cX9_multiple 54 = .ok (.iconst 1, 1) := by decide +kernel
theorem dX9_multiple_55 : decode cX9_multiple 55 = .ok (.iload_n 1, 1) := by decide +kernel
theorem dX9_multiple_56 : decode cX9_multiple 56 = .ok (.iload_n 2, 1) := by decide +kernel
theorem dX9_multiple_57 : decode cX9_multiple 57 = .ok (.iload_n 3, 1) := by decide +kernel
theorem dX9_multiple_58 : decode cX9_multiple 58 = .ok (.iload 4, 2) := by decide +kernel
theorem dX9_multiple_60 : decode cX9_multiple 60 = .ok (.iconst 0, 1) := by decide +kernel
theorem dX9_multiple_61 : decode cX9_multiple 61 = .ok (.invokevirtual 149, 3) := by decide +kernel
theorem dX9_multiple_64 : decode cX9_multiple 64 = .ok (.ireturn, 1) := by decide +kernel
theorem dX9_miss_0 : decode cX9_miss 0 = .ok (.aload_n 0, 1) := by decide +kernel
theorem dX9_miss_1 : decode cX9_miss 1 = .ok (.getfield 28, 3) := by decide +kernel
theorem dX9_miss_4 : decode cX9_miss 4 = .ok (.iload_n 1, 1) := by decide +kernel
theorem dX9_miss_5 : decode cX9_miss 5 = .ok (.invokevirtual 152, 3) := by decide +kernel
theorem dX9_miss_8 : decode cX9_miss 8 = .ok (.ifCond .ne 5, 3) := by decide +kernel
theorem dX9_miss_11 : decode cX9_miss 11 = .ok (.iconst (-1), 1) := by decide +kernel
theorem dX9_miss_12 : decode cX9_miss 12 = .ok (.ireturn, 1) := by decide +kernel
theorem dX9_miss_13 : decode cX9_miss 13 = .ok (.aload_n 0, 1) := by decide +kernel
theorem dX9_miss_14 : decode cX9_miss 14 = .ok (.getfield 21, 3) := by decide +kernel
theorem dX9_miss_17 : decode cX9_miss 17 = .ok (.aload_n 0, 1) := by decide +kernel
theorem dX9_miss_18 : decode cX9_miss 18 = .ok (.getfield 12, 3) := by decide +kernel
theorem dX9_miss_21 : decode cX9_miss 21 = .ok (.aload_n 0, 1) := by decide +kernel
theorem dX9_miss_22 : decode cX9_miss 22 = .ok (.getfield 12, 3) := by decide +kernel
theorem dX9_miss_25 : decode cX9_miss 25 = .ok (.getfield 97, 3) := by decide +kernel
theorem dX9_miss_28 : decode cX9_miss 28 = .ok (.invokevirtual 103, 3) := by decide +kernel
theorem dX9_miss_31 : decode cX9_miss 31 = .ok (.aload_n 0, 1) := by decide +kernel
theorem dX9_miss_32 : decode cX9_miss 32 = .ok (.getfield 28, 3) := by decide +kernel
theorem dX9_miss_35 : decode cX9_miss 35 = .ok (.getfield 153, 3) := by decide +kernel
theorem dX9_miss_38 : decode cX9_miss 38 = .ok (.iload_n 1, 1) := by decide +kernel
theorem dX9_miss_39 : decode cX9_miss 39 = .ok (.aaload, 1) := by decide +kernel
theorem dX9_miss_40 : decode cX9_miss 40 = .ok (.aload_n 0, 1) := by decide +kernel
theorem dX9_miss_41 : decode cX9_miss 41 = .ok (.getfield 21, 3) := by decide +kernel
theorem dX9_miss_44 : decode cX9_miss 44 = .ok (.invokevirtual 157, 3) := by decide +kernel
theorem dX9_miss_47 : decode cX9_miss 47 = .ok (.ireturn, 1) := by decide +kernel
theorem dX9_wished_0 : decode cX9_wished 0 = .ok (.aload_n 0, 1) := by decide +kernel
theorem dX9_wished_1 : decode cX9_wished 1 = .ok (.getfield 28, 3) := by decide +kernel
theorem dX9_wished_4 : decode cX9_wished 4 = .ok (.iload_n 1, 1) := by decide +kernel
theorem dX9_wished_5 : decode cX9_wished 5 = .ok (.invokevirtual 152, 3) := by decide +kernel
theorem dX9_wished_8 : decode cX9_wished 8 = .ok (.ifCond .ne 5, 3) := by decide +kernel
theorem dX9_wished_11 : decode cX9_wished 11 = .ok (.iconst (-1), 1) := by decide +kernel
theorem dX9_wished_12 : decode cX9_wished 12 = .ok (.ireturn, 1) := by decide +kernel
theorem dX9_wished_13 : decode cX9_wished 13 = .ok (.aload_n 0, 1) := by decide +kernel
theorem dX9_wished_14 : decode cX9_wished 14 = .ok (.getfield 28, 3) := by decide +kernel
theorem dX9_wished_17 : decode cX9_wished 17 = .ok (.getfield 153, 3) := by decide +kernel
theorem dX9_wished_20 : decode cX9_wished 20 = .ok (.iload_n 1, 1) := by decide +kernel
theorem dX9_wished_21 : decode cX9_wished 21 = .ok (.aaload, 1) := by decide +kernel
theorem dX9_wished_22 : decode cX9_wished 22 = .ok (.astore_n 3, 1) := by decide +kernel
theorem dX9_wished_23 : decode cX9_wished 23 = .ok (.iload_n 2, 1) := by decide +kernel
theorem dX9_wished_24 : decode cX9_wished 24 = .ok (.tableswitch 70 0 5 #[40, 45, 50, 55, 60, 65], 40) := by decide +kernel
theorem dX9_wished_64 : decode cX9_wished 64 = .ok (.aload_n 3, 1) := by decide +kernel
theorem dX9_wished_65 : decode cX9_wished 65 = .ok (.getfield 163, 3) := by decide +kernel
theorem dX9_wished_68 : decode cX9_wished 68 = .ok (.ireturn, 1) := by decide +kernel
theorem dX9_wished_69 : decode cX9_wished 69 = .ok (.aload_n 3, 1) := by decide +kernel
theorem dX9_wished_70 : decode cX9_wished 70 = .ok (.getfield 164, 3) := by decide +kernel
theorem dX9_wished_73 : decode cX9_wished 73 = .ok (.ireturn, 1) := by decide +kernel
theorem dX9_wished_74 : decode cX9_wished 74 = .ok (.aload_n 3, 1) := by decide +kernel
theorem dX9_wished_75 : decode cX9_wished 75 = .ok (.getfield 167, 3) := by decide +kernel
theorem dX9_wished_78 : decode cX9_wished 78 = .ok (.ireturn, 1) := by decide +kernel
theorem dX9_wished_79 : decode cX9_wished 79 = .ok (.aload_n 3, 1) := by decide +kernel
theorem dX9_wished_80 : decode cX9_wished 80 = .ok (.getfield 170, 3) := by decide +kernel
theorem dX9_wished_83 : decode cX9_wished 83 = .ok (.ireturn, 1) := by decide +kernel
theorem dX9_wished_84 : decode cX9_wished 84 = .ok (.aload_n 3, 1) := by decide +kernel
theorem dX9_wished_85 : decode cX9_wished 85 = .ok (.getfield 173, 3) := by decide +kernel
theorem dX9_wished_88 : decode cX9_wished 88 = .ok (.ireturn, 1) := by decide +kernel
theorem dX9_wished_89 : decode cX9_wished 89 = .ok (.aload_n 3, 1) := by decide +kernel
theorem dX9_wished_90 : decode cX9_wished 90 = .ok (.getfield 176, 3) := by decide +kernel
theorem dX9_wished_93 : decode cX9_wished 93 = .ok (.ireturn, 1) := by decide +kernel
theorem dX9_wished_94 : decode cX9_wished 94 = .ok (.bipush (-2), 2) := by decide +kernel
theorem dX9_wished_96 : decode cX9_wished 96 = .ok (.ireturn, 1) := by decide +kernel
theorem dX9_search_0 : decode cX9_search 0 = .ok (.iload_n 1, 1) := by decide +kernel
theorem dX9_search_1 : decode cX9_search 1 = .ok (.invokestatic 146, 3) := by decide +kernel
theorem dX9_search_4 : decode cX9_search 4 = .ok (.ifCond .ne 5, 3) := by decide +kernel
theorem dX9_search_7 : decode cX9_search 7 = .ok (.iconst (-1), 1) := by decide +kernel
theorem dX9_search_8 : decode cX9_search 8 = .ok (.ireturn, 1) := by decide +kernel
theorem dX9_search_9 : decode cX9_search 9 = .ok (.aload_n 0, 1) := by decide +kernel
theorem dX9_search_10 : decode cX9_search 10 = .ok (.getfield 12, 3) := by decide +kernel
theorem dX9_search_13 : decode cX9_search 13 = .ok (.invokevirtual 179, 3) := by decide +kernel
theorem dX9_search_16 : decode cX9_search 16 = .ok (.sipush 20000, 3) := by decide +kernel
theorem dX9_search_19 : decode cX9_search 19 = .ok (.if_icmp .le 6, 3) := by decide +kernel
theorem dX9_search_22 : decode cX9_search 22 = .ok (.bipush (-6), 2) := by decide +kernel
theorem dX9_search_24 : decode cX9_search 24 = .ok (.ireturn, 1) := by decide +kernel
theorem dX9_search_25 : decode cX9_search 25 = .ok (.aload_n 0, 1) := by decide +kernel
theorem dX9_search_26 : decode cX9_search 26 = .ok (.getfield 49, 3) := by decide +kernel
theorem dX9_search_29 : decode cX9_search 29 = .ok (.invokevirtual 87, 3) := by decide +kernel
theorem dX9_search_32 : decode cX9_search 32 = .ok (.aload_n 0, 1) := by decide +kernel
theorem dX9_search_33 : decode cX9_search 33 = .ok (.getfield 35, 3) := by decide +kernel
theorem dX9_search_36 : decode cX9_search 36 = .ok (.aload_n 0, 1) := by decide +kernel
theorem dX9_search_37 : decode cX9_search 37 = .ok (.getfield 12, 3) := by decide +kernel
theorem dX9_search_40 : decode cX9_search 40 = .ok (.aload_n 0, 1) := by decide +kernel
theorem dX9_search_41 : decode cX9_search 41 = .ok (.getfield 28, 3) := by decide +kernel
theorem dX9_search_44 : decode cX9_search 44 = .ok (.iload_n 1, 1) := by decide +kernel
theorem dX9_search_45 : decode cX9_search 45 = .ok (.invokevirtual 183, 3) := by decide +kernel
theorem dX9_search_48 : decode cX9_search 48 = .ok (.ifCond .ne 13, 3) := by decide +kernel
theorem dX9_search_51 : decode cX9_search 51 = .ok (.aload_n 0, 1) := by decide +kernel
theorem dX9_search_52 : decode cX9_search 52 = .ok (.getfield 42, 3) := by decide +kernel
theorem dX9_search_55 : decode cX9_search 55 = .ok (.invokevirtual 187, 3) := by decide +kernel
theorem dX9_search_58 : decode cX9_search 58 = .ok (.bipush (-9), 2) := by decide +kernel
theorem dX9_search_60 : decode cX9_search 60 = .ok (.ireturn, 1) := by decide +kernel
theorem dX9_search_61 : decode cX9_search 61 = .ok (.aload_n 0, 1) := by decide +kernel
theorem dX9_search_62 : decode cX9_search 62 = .ok (.getfield 42, 3) := by decide +kernel
theorem dX9_search_65 : decode cX9_search 65 = .ok (.aload_n 0, 1) := by decide +kernel
theorem dX9_search_66 : decode cX9_search 66 = .ok (.getfield 35, 3) := by decide +kernel
theorem dX9_search_69 : decode cX9_search 69 = .ok (.getfield 188, 3) := by decide +kernel
theorem dX9_search_72 : decode cX9_search 72 = .ok (.iconst 0, 1) := by decide +kernel
theorem dX9_search_73 : decode cX9_search 73 = .ok (.aload_n 0, 1) := by decide +kernel
theorem dX9_search_74 : decode cX9_search 74 = .ok (.getfield 12, 3) := by decide +kernel
theorem dX9_search_77 : decode cX9_search 77 = .ok (.getfield 139, 3) := by decide +kernel
theorem dX9_search_80 : decode cX9_search 80 = .ok (.invokevirtual 191, 3) := by decide +kernel
theorem dX9_search_83 : decode cX9_search 83 = .ok (.aload_n 0, 1) := by decide +kernel
theorem dX9_search_84 : decode cX9_search 84 = .ok (.getfield 35, 3) := by decide +kernel
theorem dX9_search_87 : decode cX9_search 87 = .ok (.getfield 195, 3) := by decide +kernel
theorem dX9_search_90 : decode cX9_search 90 = .ok (.ireturn, 1) := by decide +kernel
theorem dX9_hopeless_0 : decode cX9_hopeless 0 = .ok (.iload_n 1, 1) := by decide +kernel
theorem dX9_hopeless_1 : decode cX9_hopeless 1 = .ok (.invokestatic 146, 3) := by decide +kernel
theorem dX9_hopeless_4 : decode cX9_hopeless 4 = .ok (.ifCond .ne 5, 3) := by decide +kernel
theorem dX9_hopeless_7 : decode cX9_hopeless 7 = .ok (.iconst (-1), 1) := by decide +kernel
theorem dX9_hopeless_8 : decode cX9_hopeless 8 = .ok (.ireturn, 1) := by decide +kernel
theorem dX9_hopeless_9 : decode cX9_hopeless 9 = .ok (.aload_n 0, 1) := by decide +kernel
theorem dX9_hopeless_10 : decode cX9_hopeless 10 = .ok (.getfield 12, 3) := by decide +kernel
theorem dX9_hopeless_13 : decode cX9_hopeless 13 = .ok (.invokevirtual 179, 3) := by decide +kernel
theorem dX9_hopeless_16 : decode cX9_hopeless 16 = .ok (.sipush 20000, 3) := by decide +kernel
theorem dX9_hopeless_19 : decode cX9_hopeless 19 = .ok (.if_icmp .le 6, 3) := by decide +kernel
theorem dX9_hopeless_22 : decode cX9_hopeless 22 = .ok (.bipush (-6), 2) := by decide +kernel
theorem dX9_hopeless_24 : decode cX9_hopeless 24 = .ok (.ireturn, 1) := by decide +kernel
theorem dX9_hopeless_25 : decode cX9_hopeless 25 = .ok (.aload_n 0, 1) := by decide +kernel
theorem dX9_hopeless_26 : decode cX9_hopeless 26 = .ok (.getfield 35, 3) := by decide +kernel
theorem dX9_hopeless_29 : decode cX9_hopeless 29 = .ok (.aload_n 0, 1) := by decide +kernel
theorem dX9_hopeless_30 : decode cX9_hopeless 30 = .ok (.getfield 12, 3) := by decide +kernel
theorem dX9_hopeless_33 : decode cX9_hopeless 33 = .ok (.aload_n 0, 1) := by decide +kernel
theorem dX9_hopeless_34 : decode cX9_hopeless 34 = .ok (.getfield 28, 3) := by decide +kernel
theorem dX9_hopeless_37 : decode cX9_hopeless 37 = .ok (.iload_n 1, 1) := by decide +kernel
theorem dX9_hopeless_38 : decode cX9_hopeless 38 = .ok (.invokevirtual 198, 3) := by decide +kernel
theorem dX9_hopeless_41 : decode cX9_hopeless 41 = .ok (.ireturn, 1) := by decide +kernel
theorem dX9_planned_0 : decode cX9_planned 0 = .ok (.aload_n 0, 1) := by decide +kernel
theorem dX9_planned_1 : decode cX9_planned 1 = .ok (.getfield 12, 3) := by decide +kernel
theorem dX9_planned_4 : decode cX9_planned 4 = .ok (.iload_n 1, 1) := by decide +kernel
theorem dX9_planned_5 : decode cX9_planned 5 = .ok (.invokevirtual 69, 3) := by decide +kernel
theorem dX9_planned_8 : decode cX9_planned 8 = .ok (.ifCond .ne 5, 3) := by decide +kernel
theorem dX9_planned_11 : decode cX9_planned 11 = .ok (.iconst (-1), 1) := by decide +kernel
theorem dX9_planned_12 : decode cX9_planned 12 = .ok (.ireturn, 1) := by decide +kernel
theorem dX9_planned_13 : decode cX9_planned 13 = .ok (.aload_n 0, 1) := by decide +kernel
theorem dX9_planned_14 : decode cX9_planned 14 = .ok (.getfield 42, 3) := by decide +kernel
theorem dX9_planned_17 : decode cX9_planned 17 = .ok (.invokevirtual 202, 3) := by decide +kernel
theorem dX9_planned_20 : decode cX9_planned 20 = .ok (.ifCond .ne 6, 3) := by decide +kernel
theorem dX9_planned_23 : decode cX9_planned 23 = .ok (.bipush (-3), 2) := by decide +kernel
theorem dX9_planned_25 : decode cX9_planned 25 = .ok (.ireturn, 1) := by decide +kernel
theorem dX9_planned_26 : decode cX9_planned 26 = .ok (.iload_n 1, 1) := by decide +kernel
theorem dX9_planned_27 : decode cX9_planned 27 = .ok (.aload_n 0, 1) := by decide +kernel
theorem dX9_planned_28 : decode cX9_planned 28 = .ok (.getfield 42, 3) := by decide +kernel
theorem dX9_planned_31 : decode cX9_planned 31 = .ok (.getfield 206, 3) := by decide +kernel
theorem dX9_planned_34 : decode cX9_planned 34 = .ok (.if_icmp .ge 15, 3) := by decide +kernel
theorem dX9_planned_37 : decode cX9_planned 37 = .ok (.aload_n 0, 1) := by decide +kernel
theorem dX9_planned_38 : decode cX9_planned 38 = .ok (.getfield 42, 3) := by decide +kernel
theorem dX9_planned_41 : decode cX9_planned 41 = .ok (.getfield 207, 3) := by decide +kernel
theorem dX9_planned_44 : decode cX9_planned 44 = .ok (.iload_n 1, 1) := by decide +kernel
theorem dX9_planned_45 : decode cX9_planned 45 = .ok (.iaload, 1) := by decide +kernel
theorem dX9_planned_46 : decode cX9_planned 46 = .ok (.goto 4, 3) := by decide +kernel
theorem dX9_planned_49 : decode cX9_planned 49 = .ok (.iconst (-1), 1) := by decide +kernel
theorem dX9_planned_50 : decode cX9_planned 50 = .ok (.ireturn, 1) := by decide +kernel
theorem dX9_plan_0 : decode cX9_plan 0 = .ok (.aload_n 0, 1) := by decide +kernel
theorem dX9_plan_1 : decode cX9_plan 1 = .ok (.iconst 0, 1) := by decide +kernel
theorem dX9_plan_2 : decode cX9_plan 2 = .ok (.putfield 210, 3) := by decide +kernel
theorem dX9_plan_5 : decode cX9_plan 5 = .ok (.iload_n 1, 1) := by decide +kernel
theorem dX9_plan_6 : decode cX9_plan 6 = .ok (.invokestatic 213, 3) := by decide +kernel
theorem dX9_plan_9 : decode cX9_plan 9 = .ok (.ifCond .ne 5, 3) := by decide +kernel
theorem dX9_plan_12 : decode cX9_plan 12 = .ok (.iconst (-1), 1) := by decide +kernel
theorem dX9_plan_13 : decode cX9_plan 13 = .ok (.ireturn, 1) := by decide +kernel
theorem dX9_plan_14 : decode cX9_plan 14 = .ok (.iload_n 2, 1) := by decide +kernel
theorem dX9_plan_15 : decode cX9_plan 15 = .ok (.invokestatic 216, 3) := by decide +kernel
theorem dX9_plan_18 : decode cX9_plan 18 = .ok (.ifCond .ne 6, 3) := by decide +kernel
theorem dX9_plan_21 : decode cX9_plan 21 = .ok (.bipush (-2), 2) := by decide +kernel
theorem dX9_plan_23 : decode cX9_plan 23 = .ok (.ireturn, 1) := by decide +kernel
theorem dX9_plan_24 : decode cX9_plan 24 = .ok (.aload_n 0, 1) := by decide +kernel
theorem dX9_plan_25 : decode cX9_plan 25 = .ok (.getfield 55, 3) := by decide +kernel
theorem dX9_plan_28 : decode cX9_plan 28 = .ok (.iload_n 1, 1) := by decide +kernel
theorem dX9_plan_29 : decode cX9_plan 29 = .ok (.aaload, 1) := by decide +kernel
theorem dX9_plan_30 : decode cX9_plan 30 = .ok (.astore 4, 2) := by decide +kernel
theorem dX9_plan_32 : decode cX9_plan 32 = .ok (.aload 4, 2) := by decide +kernel
theorem dX9_plan_34 : decode cX9_plan 34 = .ok (.iload_n 2, 1) := by decide +kernel
theorem dX9_plan_35 : decode cX9_plan 35 = .ok (.iload_n 3, 1) := by decide +kernel
theorem dX9_plan_36 : decode cX9_plan 36 = .ok (.aload_n 0, 1) := by decide +kernel
theorem dX9_plan_37 : decode cX9_plan 37 = .ok (.getfield 12, 3) := by decide +kernel
theorem dX9_plan_40 : decode cX9_plan 40 = .ok (.getfield 139, 3) := by decide +kernel
theorem dX9_plan_43 : decode cX9_plan 43 = .ok (.invokevirtual 219, 3) := by decide +kernel
theorem dX9_plan_46 : decode cX9_plan 46 = .ok (.istore 5, 2) := by decide +kernel
theorem dX9_plan_48 : decode cX9_plan 48 = .ok (.iload 5, 2) := by decide +kernel
theorem dX9_plan_50 : decode cX9_plan 50 = .ok (.ifCond .eq 10, 3) := by decide +kernel
theorem dX9_plan_53 : decode cX9_plan 53 = .ok (.aload_n 0, 1) := by decide +kernel
theorem dX9_plan_54 : decode cX9_plan 54 = .ok (.iload 5, 2) := by decide +kernel
theorem dX9_plan_56 : decode cX9_plan 56 = .ok (.invokevirtual 223, 3) := by decide +kernel
theorem dX9_plan_59 : decode cX9_plan 59 = .ok (.ireturn, 1) := by decide +kernel
theorem dX9_plan_60 : decode cX9_plan 60 = .ok (.aload_n 0, 1) := by decide +kernel
theorem dX9_plan_61 : decode cX9_plan 61 = .ok (.getfield 12, 3) := by decide +kernel
theorem dX9_plan_64 : decode cX9_plan 64 = .ok (.aload 4, 2) := by decide +kernel
theorem dX9_plan_66 : decode cX9_plan 66 = .ok (.getfield 227, 3) := by decide +kernel
theorem dX9_plan_69 : decode cX9_plan 69 = .ok (.iload_n 3, 1) := by decide +kernel
theorem dX9_plan_70 : decode cX9_plan 70 = .ok (.invokevirtual 230, 3) := by decide +kernel
theorem dX9_plan_73 : decode cX9_plan 73 = .ok (.ifCond .ne 6, 3) := by decide +kernel
theorem dX9_plan_76 : decode cX9_plan 76 = .ok (.bipush (-2), 2) := by decide +kernel
theorem dX9_plan_78 : decode cX9_plan 78 = .ok (.ireturn, 1) := by decide +kernel
theorem dX9_plan_79 : decode cX9_plan 79 = .ok (.aload_n 0, 1) := by decide +kernel
theorem dX9_plan_80 : decode cX9_plan 80 = .ok (.getfield 12, 3) := by decide +kernel
theorem dX9_plan_83 : decode cX9_plan 83 = .ok (.aload 4, 2) := by decide +kernel
theorem dX9_plan_85 : decode cX9_plan 85 = .ok (.getfield 227, 3) := by decide +kernel
theorem dX9_plan_88 : decode cX9_plan 88 = .ok (.iload_n 3, 1) := by decide +kernel
theorem dX9_plan_89 : decode cX9_plan 89 = .ok (.aload_n 0, 1) := by decide +kernel
theorem dX9_plan_90 : decode cX9_plan 90 = .ok (.getfield 12, 3) := by decide +kernel
theorem dX9_plan_93 : decode cX9_plan 93 = .ok (.getfield 139, 3) := by decide +kernel
theorem dX9_plan_96 : decode cX9_plan 96 = .ok (.invokevirtual 234, 3) := by decide +kernel
theorem dX9_plan_99 : decode cX9_plan 99 = .ok (.ifCond .eq 6, 3) := by decide +kernel
theorem dX9_plan_102 : decode cX9_plan 102 = .ok (.bipush (-3), 2) := by decide +kernel
theorem dX9_plan_104 : decode cX9_plan 104 = .ok (.ireturn, 1) := by decide +kernel
theorem dX9_plan_105 : decode cX9_plan 105 = .ok (.aload_n 0, 1) := by decide +kernel
theorem dX9_plan_106 : decode cX9_plan 106 = .ok (.getfield 42, 3) := by decide +kernel
theorem dX9_plan_109 : decode cX9_plan 109 = .ok (.aload 4, 2) := by decide +kernel
theorem dX9_plan_111 : decode cX9_plan 111 = .ok (.getfield 227, 3) := by decide +kernel
theorem dX9_plan_114 : decode cX9_plan 114 = .ok (.iload_n 3, 1) := by decide +kernel
theorem dX9_plan_115 : decode cX9_plan 115 = .ok (.aload_n 0, 1) := by decide +kernel
theorem dX9_plan_116 : decode cX9_plan 116 = .ok (.getfield 12, 3) := by decide +kernel
theorem dX9_plan_119 : decode cX9_plan 119 = .ok (.getfield 139, 3) := by decide +kernel
theorem dX9_plan_122 : decode cX9_plan 122 = .ok (.invokevirtual 191, 3) := by decide +kernel
theorem dX9_plan_125 : decode cX9_plan 125 = .ok (.aload_n 0, 1) := by decide +kernel
theorem dX9_plan_126 : decode cX9_plan 126 = .ok (.getfield 49, 3) := by decide +kernel
theorem dX9_plan_129 : decode cX9_plan 129 = .ok (.invokevirtual 87, 3) := by decide +kernel
theorem dX9_plan_132 : decode cX9_plan 132 = .ok (.aload_n 0, 1) := by decide +kernel
theorem dX9_plan_133 : decode cX9_plan 133 = .ok (.getfield 12, 3) := by decide +kernel
theorem dX9_plan_136 : decode cX9_plan 136 = .ok (.getfield 139, 3) := by decide +kernel
theorem dX9_plan_139 : decode cX9_plan 139 = .ok (.ireturn, 1) := by decide +kernel
theorem dX9_tried_0 : decode cX9_tried 0 = .ok (.aload_n 0, 1) := by decide +kernel
theorem dX9_tried_1 : decode cX9_tried 1 = .ok (.getfield 35, 3) := by decide +kernel
theorem dX9_tried_4 : decode cX9_tried 4 = .ok (.getfield 238, 3) := by decide +kernel
theorem dX9_tried_7 : decode cX9_tried 7 = .ok (.ireturn, 1) := by decide +kernel
theorem dX9_change_0 : decode cX9_change 0 = .ok (.aload_n 0, 1) := by decide +kernel
theorem dX9_change_1 : decode cX9_change 1 = .ok (.getfield 42, 3) := by decide +kernel
theorem dX9_change_4 : decode cX9_change 4 = .ok (.invokevirtual 202, 3) := by decide +kernel
theorem dX9_change_7 : decode cX9_change 7 = .ok (.ifCond .eq 45, 3) := by decide +kernel
theorem dX9_change_10 : decode cX9_change 10 = .ok (.aload_n 0, 1) := by decide +kernel
theorem dX9_change_11 : decode cX9_change 11 = .ok (.getfield 42, 3) := by decide +kernel
theorem dX9_change_14 : decode cX9_change 14 = .ok (.getfield 206, 3) := by decide +kernel
theorem dX9_change_17 : decode cX9_change 17 = .ok (.aload_n 0, 1) := by decide +kernel
theorem dX9_change_18 : decode cX9_change 18 = .ok (.getfield 12, 3) := by decide +kernel
theorem dX9_change_21 : decode cX9_change 21 = .ok (.getfield 139, 3) := by decide +kernel
theorem dX9_change_24 : decode cX9_change 24 = .ok (.if_icmp .lt 28, 3) := by decide +kernel
theorem dX9_change_27 : decode cX9_change 27 = .ok (.aload_n 0, 1) := by decide +kernel
theorem dX9_change_28 : decode cX9_change 28 = .ok (.getfield 12, 3) := by decide +kernel
theorem dX9_change_31 : decode cX9_change 31 = .ok (.aload_n 0, 1) := by decide +kernel
theorem dX9_change_32 : decode cX9_change 32 = .ok (.getfield 42, 3) := by decide +kernel
theorem dX9_change_35 : decode cX9_change 35 = .ok (.getfield 207, 3) := by decide +kernel
theorem dX9_change_38 : decode cX9_change 38 = .ok (.iconst 0, 1) := by decide +kernel
theorem dX9_change_39 : decode cX9_change 39 = .ok (.aload_n 0, 1) := by decide +kernel
theorem dX9_change_40 : decode cX9_change 40 = .ok (.getfield 42, 3) := by decide +kernel
theorem dX9_change_43 : decode cX9_change 43 = .ok (.getfield 206, 3) := by decide +kernel
theorem dX9_change_46 : decode cX9_change 46 = .ok (.invokevirtual 234, 3) := by decide +kernel
theorem dX9_change_49 : decode cX9_change 49 = .ok (.ifCond .eq 6, 3) := by decide +kernel
theorem dX9_change_52 : decode cX9_change 52 = .ok (.bipush (-3), 2) := by decide +kernel
theorem dX9_change_54 : decode cX9_change 54 = .ok (.ireturn, 1) := by decide +kernel
theorem dX9_change_55 : decode cX9_change 55 = .ok (.aload_n 0, 1) := by decide +kernel
theorem dX9_change_56 : decode cX9_change 56 = .ok (.getfield 12, 3) := by decide +kernel
theorem dX9_change_59 : decode cX9_change 59 = .ok (.aload_n 0, 1) := by decide +kernel
theorem dX9_change_60 : decode cX9_change 60 = .ok (.getfield 42, 3) := by decide +kernel
theorem dX9_change_63 : decode cX9_change 63 = .ok (.getfield 207, 3) := by decide +kernel
theorem dX9_change_66 : decode cX9_change 66 = .ok (.aload_n 0, 1) := by decide +kernel
theorem dX9_change_67 : decode cX9_change 67 = .ok (.getfield 42, 3) := by decide +kernel
theorem dX9_change_70 : decode cX9_change 70 = .ok (.getfield 206, 3) := by decide +kernel
theorem dX9_change_73 : decode cX9_change 73 = .ok (.invokevirtual 241, 3) := by decide +kernel
theorem dX9_change_76 : decode cX9_change 76 = .ok (.bipush 12, 2) := by decide +kernel
theorem dX9_change_78 : decode cX9_change 78 = .ok (.if_icmp .le 6, 3) := by decide +kernel
theorem dX9_change_81 : decode cX9_change 81 = .ok (.bipush (-6), 2) := by decide +kernel
theorem dX9_change_83 : decode cX9_change 83 = .ok (.ireturn, 1) := by decide +kernel
theorem dX9_change_84 : decode cX9_change 84 = .ok (.aload_n 0, 1) := by decide +kernel
theorem dX9_change_85 : decode cX9_change 85 = .ok (.getfield 49, 3) := by decide +kernel
theorem dX9_change_88 : decode cX9_change 88 = .ok (.aload_n 0, 1) := by decide +kernel
theorem dX9_change_89 : decode cX9_change 89 = .ok (.getfield 12, 3) := by decide +kernel
theorem dX9_change_92 : decode cX9_change 92 = .ok (.aload_n 0, 1) := by decide +kernel
theorem dX9_change_93 : decode cX9_change 93 = .ok (.getfield 42, 3) := by decide +kernel
theorem dX9_change_96 : decode cX9_change 96 = .ok (.getfield 207, 3) := by decide +kernel
theorem dX9_change_99 : decode cX9_change 99 = .ok (.invokevirtual 245, 3) := by decide +kernel
theorem dX9_change_102 : decode cX9_change 102 = .ok (.aload_n 0, 1) := by decide +kernel
theorem dX9_change_103 : decode cX9_change 103 = .ok (.getfield 49, 3) := by decide +kernel
theorem dX9_change_106 : decode cX9_change 106 = .ok (.getfield 248, 3) := by decide +kernel
theorem dX9_change_109 : decode cX9_change 109 = .ok (.ireturn, 1) := by decide +kernel
theorem dX9_step_0 : decode cX9_step 0 = .ok (.aload_n 0, 1) := by decide +kernel
theorem dX9_step_1 : decode cX9_step 1 = .ok (.getfield 49, 3) := by decide +kernel
theorem dX9_step_4 : decode cX9_step 4 = .ok (.invokevirtual 249, 3) := by decide +kernel
theorem dX9_step_7 : decode cX9_step 7 = .ok (.ifCond .eq 32, 3) := by decide +kernel
theorem dX9_step_10 : decode cX9_step 10 = .ok (.iload_n 1, 1) := by decide +kernel
theorem dX9_step_11 : decode cX9_step 11 = .ok (.iconst 0, 1) := by decide +kernel
theorem dX9_step_12 : decode cX9_step 12 = .ok (.aload_n 0, 1) := by decide +kernel
theorem dX9_step_13 : decode cX9_step 13 = .ok (.getfield 49, 3) := by decide +kernel
theorem dX9_step_16 : decode cX9_step 16 = .ok (.getfield 248, 3) := by decide +kernel
theorem dX9_step_19 : decode cX9_step 19 = .ok (.iconst 1, 1) := by decide +kernel
theorem dX9_step_20 : decode cX9_step 20 = .ok (.isub, 1) := by decide +kernel
theorem dX9_step_21 : decode cX9_step 21 = .ok (.invokestatic 61, 3) := by decide +kernel
theorem dX9_step_24 : decode cX9_step 24 = .ok (.ifCond .eq 15, 3) := by decide +kernel
theorem dX9_step_27 : decode cX9_step 27 = .ok (.aload_n 0, 1) := by decide +kernel
theorem dX9_step_28 : decode cX9_step 28 = .ok (.getfield 49, 3) := by decide +kernel
theorem dX9_step_31 : decode cX9_step 31 = .ok (.getfield 252, 3) := by decide +kernel
theorem dX9_step_34 : decode cX9_step 34 = .ok (.iload_n 1, 1) := by decide +kernel
theorem dX9_step_35 : decode cX9_step 35 = .ok (.iaload, 1) := by decide +kernel
theorem dX9_step_36 : decode cX9_step 36 = .ok (.goto 4, 3) := by decide +kernel
theorem dX9_step_39 : decode cX9_step 39 = .ok (.iconst (-1), 1) := by decide +kernel
theorem dX9_step_40 : decode cX9_step 40 = .ok (.ireturn, 1) := by decide +kernel
theorem dX9_go_0 : decode cX9_go 0 = .ok (.aload_n 0, 1) := by decide +kernel
theorem dX9_go_1 : decode cX9_go 1 = .ok (.getfield 49, 3) := by decide +kernel
theorem dX9_go_4 : decode cX9_go 4 = .ok (.invokevirtual 249, 3) := by decide +kernel
theorem dX9_go_7 : decode cX9_go 7 = .ok (.ifCond .ne 6, 3) := by decide +kernel
theorem dX9_go_10 : decode cX9_go 10 = .ok (.bipush (-3), 2) := by decide +kernel
theorem dX9_go_12 : decode cX9_go 12 = .ok (.ireturn, 1) := by decide +kernel
theorem dX9_go_13 : decode cX9_go 13 = .ok (.aload_n 0, 1) := by decide +kernel
theorem dX9_go_14 : decode cX9_go 14 = .ok (.getfield 49, 3) := by decide +kernel
theorem dX9_go_17 : decode cX9_go 17 = .ok (.getfield 248, 3) := by decide +kernel
theorem dX9_go_20 : decode cX9_go 20 = .ok (.istore_n 1, 1) := by decide +kernel
theorem dX9_go_21 : decode cX9_go 21 = .ok (.iconst 0, 1) := by decide +kernel
theorem dX9_go_22 : decode cX9_go 22 = .ok (.istore_n 2, 1) := by decide +kernel
theorem dX9_go_23 : decode cX9_go 23 = .ok (.iload_n 2, 1) := by decide +kernel
theorem dX9_go_24 : decode cX9_go 24 = .ok (.iload_n 1, 1) := by decide +kernel
theorem dX9_go_25 : decode cX9_go 25 = .ok (.if_icmp .ge 37, 3) := by decide +kernel
theorem dX9_go_28 : decode cX9_go 28 = .ok (.aload_n 0, 1) := by decide +kernel
theorem dX9_go_29 : decode cX9_go 29 = .ok (.getfield 49, 3) := by decide +kernel
theorem dX9_go_32 : decode cX9_go 32 = .ok (.getfield 252, 3) := by decide +kernel
theorem dX9_go_35 : decode cX9_go 35 = .ok (.iload_n 2, 1) := by decide +kernel
theorem dX9_go_36 : decode cX9_go 36 = .ok (.iaload, 1) := by decide +kernel
theorem dX9_go_37 : decode cX9_go 37 = .ok (.istore_n 3, 1) := by decide +kernel
theorem dX9_go_38 : decode cX9_go 38 = .ok (.aload_n 0, 1) := by decide +kernel
theorem dX9_go_39 : decode cX9_go 39 = .ok (.getfield 12, 3) := by decide +kernel
theorem dX9_go_42 : decode cX9_go 42 = .ok (.getfield 97, 3) := by decide +kernel
theorem dX9_go_45 : decode cX9_go 45 = .ok (.iload_n 3, 1) := by decide +kernel
theorem dX9_go_46 : decode cX9_go 46 = .ok (.aload_n 0, 1) := by decide +kernel
theorem dX9_go_47 : decode cX9_go 47 = .ok (.getfield 42, 3) := by decide +kernel
theorem dX9_go_50 : decode cX9_go 50 = .ok (.getfield 207, 3) := by decide +kernel
theorem dX9_go_53 : decode cX9_go 53 = .ok (.iload_n 3, 1) := by decide +kernel
theorem dX9_go_54 : decode cX9_go 54 = .ok (.iaload, 1) := by decide +kernel
theorem dX9_go_55 : decode cX9_go 55 = .ok (.iastore, 1) := by decide +kernel
theorem dX9_go_56 : decode cX9_go 56 = .ok (.iinc 2 1, 3) := by decide +kernel
theorem dX9_go_59 : decode cX9_go 59 = .ok (.goto (-36), 3) := by decide +kernel
theorem dX9_go_62 : decode cX9_go 62 = .ok (.aload_n 0, 1) := by decide +kernel
theorem dX9_go_63 : decode cX9_go 63 = .ok (.getfield 49, 3) := by decide +kernel
theorem dX9_go_66 : decode cX9_go 66 = .ok (.invokevirtual 87, 3) := by decide +kernel
theorem dX9_go_69 : decode cX9_go 69 = .ok (.iload_n 1, 1) := by decide +kernel
theorem dX9_go_70 : decode cX9_go 70 = .ok (.ireturn, 1) := by decide +kernel
theorem dX9_sheet_0 : decode cX9_sheet 0 = .ok (.aload_n 0, 1) := by decide +kernel
theorem dX9_sheet_1 : decode cX9_sheet 1 = .ok (.iconst 0, 1) := by decide +kernel
theorem dX9_sheet_2 : decode cX9_sheet 2 = .ok (.putfield 210, 3) := by decide +kernel
theorem dX9_sheet_5 : decode cX9_sheet 5 = .ok (.iload_n 1, 1) := by decide +kernel
theorem dX9_sheet_6 : decode cX9_sheet 6 = .ok (.invokestatic 213, 3) := by decide +kernel
theorem dX9_sheet_9 : decode cX9_sheet 9 = .ok (.ifCond .ne 5, 3) := by decide +kernel
theorem dX9_sheet_12 : decode cX9_sheet 12 = .ok (.iconst (-1), 1) := by decide +kernel
theorem dX9_sheet_13 : decode cX9_sheet 13 = .ok (.ireturn, 1) := by decide +kernel
theorem dX9_sheet_14 : decode cX9_sheet 14 = .ok (.iload_n 2, 1) := by decide +kernel
theorem dX9_sheet_15 : decode cX9_sheet 15 = .ok (.invokestatic 216, 3) := by decide +kernel
theorem dX9_sheet_18 : decode cX9_sheet 18 = .ok (.ifCond .eq 9, 3) := by decide +kernel
theorem dX9_sheet_21 : decode cX9_sheet 21 = .ok (.iload_n 3, 1) := by decide +kernel
theorem dX9_sheet_22 : decode cX9_sheet 22 = .ok (.bipush 24, 2) := by decide +kernel
theorem dX9_sheet_24 : decode cX9_sheet 24 = .ok (.if_icmp .le 6, 3) := by decide +kernel
theorem dX9_sheet_27 : decode cX9_sheet 27 = .ok (.bipush (-2), 2) := by decide +kernel
theorem dX9_sheet_29 : decode cX9_sheet 29 = .ok (.ireturn, 1) := by decide +kernel
theorem dX9_sheet_30 : decode cX9_sheet 30 = .ok (.iload_n 3, 1) := by decide +kernel
theorem dX9_sheet_31 : decode cX9_sheet 31 = .ok (.ifCond .ge 9, 3) := by decide +kernel
theorem dX9_sheet_34 : decode cX9_sheet 34 = .ok (.aload_n 0, 1) := by decide +kernel
theorem dX9_sheet_35 : decode cX9_sheet 35 = .ok (.iconst 4, 1) := by decide +kernel
theorem dX9_sheet_36 : decode cX9_sheet 36 = .ok (.invokevirtual 223, 3) := by decide +kernel
theorem dX9_sheet_39 : decode cX9_sheet 39 = .ok (.ireturn, 1) := by decide +kernel
theorem dX9_sheet_40 : decode cX9_sheet 40 = .ok (.aload_n 0, 1) := by decide +kernel
theorem dX9_sheet_41 : decode cX9_sheet 41 = .ok (.getfield 55, 3) := by decide +kernel
theorem dX9_sheet_44 : decode cX9_sheet 44 = .ok (.iload_n 1, 1) := by decide +kernel
theorem dX9_sheet_45 : decode cX9_sheet 45 = .ok (.aaload, 1) := by decide +kernel
theorem dX9_sheet_46 : decode cX9_sheet 46 = .ok (.iload_n 2, 1) := by decide +kernel
theorem dX9_sheet_47 : decode cX9_sheet 47 = .ok (.iload_n 3, 1) := by decide +kernel
theorem dX9_sheet_48 : decode cX9_sheet 48 = .ok (.invokevirtual 255, 3) := by decide +kernel
theorem dX9_sheet_51 : decode cX9_sheet 51 = .ok (.iconst 1, 1) := by decide +kernel
theorem dX9_sheet_52 : decode cX9_sheet 52 = .ok (.ireturn, 1) := by decide +kernel
theorem dX9_lose_0 : decode cX9_lose 0 = .ok (.iload_n 1, 1) := by decide +kernel
theorem dX9_lose_1 : decode cX9_lose 1 = .ok (.invokestatic 213, 3) := by decide +kernel
theorem dX9_lose_4 : decode cX9_lose 4 = .ok (.ifCond .ne 5, 3) := by decide +kernel
theorem dX9_lose_7 : decode cX9_lose 7 = .ok (.iconst (-1), 1) := by decide +kernel
theorem dX9_lose_8 : decode cX9_lose 8 = .ok (.ireturn, 1) := by decide +kernel
theorem dX9_lose_9 : decode cX9_lose 9 = .ok (.aload_n 0, 1) := by decide +kernel
theorem dX9_lose_10 : decode cX9_lose 10 = .ok (.getfield 55, 3) := by decide +kernel
theorem dX9_lose_13 : decode cX9_lose 13 = .ok (.iload_n 1, 1) := by decide +kernel
theorem dX9_lose_14 : decode cX9_lose 14 = .ok (.aaload, 1) := by decide +kernel
theorem dX9_lose_15 : decode cX9_lose 15 = .ok (.invokevirtual 259, 3) := by decide +kernel
theorem dX9_lose_18 : decode cX9_lose 18 = .ok (.ifCond .eq 5, 3) := by decide +kernel
theorem dX9_lose_21 : decode cX9_lose 21 = .ok (.iconst 0, 1) := by decide +kernel
theorem dX9_lose_22 : decode cX9_lose 22 = .ok (.ireturn, 1) := by decide +kernel
theorem dX9_lose_23 : decode cX9_lose 23 = .ok (.aload_n 0, 1) := by decide +kernel
theorem dX9_lose_24 : decode cX9_lose 24 = .ok (.getfield 55, 3) := by decide +kernel
theorem dX9_lose_27 : decode cX9_lose 27 = .ok (.iload_n 1, 1) := by decide +kernel
theorem dX9_lose_28 : decode cX9_lose 28 = .ok (.aaload, 1) := by decide +kernel
theorem dX9_lose_29 : decode cX9_lose 29 = .ok (.invokevirtual 262, 3) := by decide +kernel
theorem dX9_lose_32 : decode cX9_lose 32 = .ok (.iconst 1, 1) := by decide +kernel
theorem dX9_lose_33 : decode cX9_lose 33 = .ok (.ireturn, 1) := by decide +kernel
theorem dX9_put_0 : decode cX9_put 0 = .ok (.aload_n 0, 1) := by decide +kernel
theorem dX9_put_1 : decode cX9_put 1 = .ok (.iconst 0, 1) := by decide +kernel
theorem dX9_put_2 : decode cX9_put 2 = .ok (.putfield 210, 3) := by decide +kernel
theorem dX9_put_5 : decode cX9_put 5 = .ok (.iload_n 1, 1) := by decide +kernel
theorem dX9_put_6 : decode cX9_put 6 = .ok (.invokestatic 213, 3) := by decide +kernel
theorem dX9_put_9 : decode cX9_put 9 = .ok (.ifCond .ne 5, 3) := by decide +kernel
theorem dX9_put_12 : decode cX9_put 12 = .ok (.iconst (-1), 1) := by decide +kernel
theorem dX9_put_13 : decode cX9_put 13 = .ok (.ireturn, 1) := by decide +kernel
theorem dX9_put_14 : decode cX9_put 14 = .ok (.aload_n 0, 1) := by decide +kernel
theorem dX9_put_15 : decode cX9_put 15 = .ok (.getfield 55, 3) := by decide +kernel
theorem dX9_put_18 : decode cX9_put 18 = .ok (.iload_n 1, 1) := by decide +kernel
theorem dX9_put_19 : decode cX9_put 19 = .ok (.aaload, 1) := by decide +kernel
theorem dX9_put_20 : decode cX9_put 20 = .ok (.astore 4, 2) := by decide +kernel
theorem dX9_put_22 : decode cX9_put 22 = .ok (.aload 4, 2) := by decide +kernel
theorem dX9_put_24 : decode cX9_put 24 = .ok (.invokevirtual 259, 3) := by decide +kernel
theorem dX9_put_27 : decode cX9_put 27 = .ok (.ifCond .eq 9, 3) := by decide +kernel
theorem dX9_put_30 : decode cX9_put 30 = .ok (.aload_n 0, 1) := by decide +kernel
theorem dX9_put_31 : decode cX9_put 31 = .ok (.iconst 1, 1) := by decide +kernel
theorem dX9_put_32 : decode cX9_put 32 = .ok (.invokevirtual 223, 3) := by decide +kernel
theorem dX9_put_35 : decode cX9_put 35 = .ok (.ireturn, 1) := by decide +kernel
theorem dX9_put_36 : decode cX9_put 36 = .ok (.aload 4, 2) := by decide +kernel
theorem dX9_put_38 : decode cX9_put 38 = .ok (.iload_n 2, 1) := by decide +kernel
theorem dX9_put_39 : decode cX9_put 39 = .ok (.iconst 1, 1) := by decide +kernel
theorem dX9_put_40 : decode cX9_put 40 = .ok (.invokevirtual 263, 3) := by decide +kernel
theorem dX9_put_43 : decode cX9_put 43 = .ok (.ifCond .ne 9, 3) := by decide +kernel
theorem dX9_put_46 : decode cX9_put 46 = .ok (.aload_n 0, 1) := by decide +kernel
theorem dX9_put_47 : decode cX9_put 47 = .ok (.iconst 3, 1) := by decide +kernel
theorem dX9_put_48 : decode cX9_put 48 = .ok (.invokevirtual 223, 3) := by decide +kernel
theorem dX9_put_51 : decode cX9_put 51 = .ok (.ireturn, 1) := by decide +kernel
theorem dX9_put_52 : decode cX9_put 52 = .ok (.aload 4, 2) := by decide +kernel
theorem dX9_put_54 : decode cX9_put 54 = .ok (.getfield 227, 3) := by decide +kernel
theorem dX9_put_57 : decode cX9_put 57 = .ok (.iload_n 2, 1) := by decide +kernel
theorem dX9_put_58 : decode cX9_put 58 = .ok (.aload 4, 2) := by decide +kernel
theorem dX9_put_60 : decode cX9_put 60 = .ok (.iload_n 3, 1) := by decide +kernel
theorem dX9_put_61 : decode cX9_put 61 = .ok (.invokevirtual 267, 3) := by decide +kernel
theorem dX9_put_64 : decode cX9_put 64 = .ok (.iastore, 1) := by decide +kernel
theorem dX9_put_65 : decode cX9_put 65 = .ok (.iconst 1, 1) := by decide +kernel
theorem dX9_put_66 : decode cX9_put 66 = .ok (.ireturn, 1) := by decide +kernel
theorem dX9_cell_0 : decode cX9_cell 0 = .ok (.aload_n 0, 1) := by decide +kernel
theorem dX9_cell_1 : decode cX9_cell 1 = .ok (.iconst 0, 1) := by decide +kernel
theorem dX9_cell_2 : decode cX9_cell 2 = .ok (.putfield 210, 3) := by decide +kernel
theorem dX9_cell_5 : decode cX9_cell 5 = .ok (.iload_n 1, 1) := by decide +kernel
theorem dX9_cell_6 : decode cX9_cell 6 = .ok (.invokestatic 213, 3) := by decide +kernel
theorem dX9_cell_9 : decode cX9_cell 9 = .ok (.ifCond .eq 10, 3) := by decide +kernel
theorem dX9_cell_12 : decode cX9_cell 12 = .ok (.iload_n 3, 1) := by decide +kernel
theorem dX9_cell_13 : decode cX9_cell 13 = .ok (.invokestatic 216, 3) := by decide +kernel
theorem dX9_cell_16 : decode cX9_cell 16 = .ok (.ifCond .ne 7, 3) := by decide +kernel
theorem dX9_cell_19 : decode cX9_cell 19 = .ok (.ldc2_w 101, 3) := by decide +kernel
theorem dX9_cell_22 : decode cX9_cell 22 = .ok (.lreturn, 1) := by decide +kernel
theorem dX9_cell_23 : decode cX9_cell 23 = .ok (.aload_n 0, 1) := by decide +kernel
theorem dX9_cell_24 : decode cX9_cell 24 = .ok (.aload_n 0, 1) := by decide +kernel
theorem dX9_cell_25 : decode cX9_cell 25 = .ok (.getfield 55, 3) := by decide +kernel
theorem dX9_cell_28 : decode cX9_cell 28 = .ok (.iload_n 1, 1) := by decide +kernel
theorem dX9_cell_29 : decode cX9_cell 29 = .ok (.aaload, 1) := by decide +kernel
theorem dX9_cell_30 : decode cX9_cell 30 = .ok (.iload_n 3, 1) := by decide +kernel
theorem dX9_cell_31 : decode cX9_cell 31 = .ok (.iload_n 2, 1) := by decide +kernel
theorem dX9_cell_32 : decode cX9_cell 32 = .ok (.iconst 1, 1) := by decide +kernel
theorem dX9_cell_33 : decode cX9_cell 33 = .ok (.invokevirtual 219, 3) := by decide +kernel
theorem dX9_cell_36 : decode cX9_cell 36 = .ok (.putfield 210, 3) := by decide +kernel
theorem dX9_cell_39 : decode cX9_cell 39 = .ok (.aload_n 0, 1) := by decide +kernel
theorem dX9_cell_40 : decode cX9_cell 40 = .ok (.getfield 210, 3) := by decide +kernel
theorem dX9_cell_43 : decode cX9_cell 43 = .ok (.ifCond .ne 18, 3) := by decide +kernel
theorem dX9_cell_46 : decode cX9_cell 46 = .ok (.aload_n 0, 1) := by decide +kernel
theorem dX9_cell_47 : decode cX9_cell 47 = .ok (.getfield 55, 3) := by decide +kernel
theorem dX9_cell_50 : decode cX9_cell 50 = .ok (.iload_n 1, 1) := by decide +kernel
theorem dX9_cell_51 : decode cX9_cell 51 = .ok (.aaload, 1) := by decide +kernel
theorem dX9_cell_52 : decode cX9_cell 52 = .ok (.getfield 227, 3) := by decide +kernel
theorem dX9_cell_55 : decode cX9_cell 55 = .ok (.iload_n 2, 1) := by decide +kernel
theorem dX9_cell_56 : decode cX9_cell 56 = .ok (.iaload, 1) := by decide +kernel
theorem dX9_cell_57 : decode cX9_cell 57 = .ok (.i2l, 1) := by decide +kernel
theorem dX9_cell_58 : decode cX9_cell 58 = .ok (.goto 6, 3) := by decide +kernel
theorem dX9_cell_61 : decode cX9_cell 61 = .ok (.ldc2_w 101, 3) := by decide +kernel
theorem dX9_cell_64 : decode cX9_cell 64 = .ok (.lreturn, 1) := by decide +kernel
theorem dX9_copy_0 : decode cX9_copy 0 = .ok (.aload_n 0, 1) := by decide +kernel
theorem dX9_copy_1 : decode cX9_copy 1 = .ok (.iconst 0, 1) := by decide +kernel
theorem dX9_copy_2 : decode cX9_copy 2 = .ok (.putfield 210, 3) := by decide +kernel
theorem dX9_copy_5 : decode cX9_copy 5 = .ok (.iload_n 1, 1) := by decide +kernel
theorem dX9_copy_6 : decode cX9_copy 6 = .ok (.invokestatic 213, 3) := by decide +kernel
theorem dX9_copy_9 : decode cX9_copy 9 = .ok (.ifCond .eq 10, 3) := by decide +kernel
theorem dX9_copy_12 : decode cX9_copy 12 = .ok (.iload_n 3, 1) := by decide +kernel
theorem dX9_copy_13 : decode cX9_copy 13 = .ok (.invokestatic 213, 3) := by decide +kernel
theorem dX9_copy_16 : decode cX9_copy 16 = .ok (.ifCond .ne 5, 3) := by decide +kernel
theorem dX9_copy_19 : decode cX9_copy 19 = .ok (.iconst (-1), 1) := by decide +kernel
theorem dX9_copy_20 : decode cX9_copy 20 = .ok (.ireturn, 1) := by decide +kernel
theorem dX9_copy_21 : decode cX9_copy 21 = .ok (.aload_n 0, 1) := by decide +kernel
theorem dX9_copy_22 : decode cX9_copy 22 = .ok (.getfield 55, 3) := by decide +kernel
theorem dX9_copy_25 : decode cX9_copy 25 = .ok (.iload_n 1, 1) := by decide +kernel
theorem dX9_copy_26 : decode cX9_copy 26 = .ok (.aaload, 1) := by decide +kernel
theorem dX9_copy_27 : decode cX9_copy 27 = .ok (.astore 6, 2) := by decide +kernel
theorem dX9_copy_29 : decode cX9_copy 29 = .ok (.aload_n 0, 1) := by decide +kernel
theorem dX9_copy_30 : decode cX9_copy 30 = .ok (.getfield 55, 3) := by decide +kernel
theorem dX9_copy_33 : decode cX9_copy 33 = .ok (.iload_n 3, 1) := by decide +kernel
theorem dX9_copy_34 : decode cX9_copy 34 = .ok (.aaload, 1) := by decide +kernel
theorem dX9_copy_35 : decode cX9_copy 35 = .ok (.astore 7, 2) := by decide +kernel
theorem dX9_copy_37 : decode cX9_copy 37 = .ok (.aload 6, 2) := by decide +kernel
theorem dX9_copy_39 : decode cX9_copy 39 = .ok (.invokevirtual 259, 3) := by decide +kernel
theorem dX9_copy_42 : decode cX9_copy 42 = .ok (.ifCond .ne 11, 3) := by decide +kernel
theorem dX9_copy_45 : decode cX9_copy 45 = .ok (.aload 7, 2) := by decide +kernel
theorem dX9_copy_47 : decode cX9_copy 47 = .ok (.invokevirtual 259, 3) := by decide +kernel
theorem dX9_copy_50 : decode cX9_copy 50 = .ok (.ifCond .eq 9, 3) := by decide +kernel
theorem dX9_copy_53 : decode cX9_copy 53 = .ok (.aload_n 0, 1) := by decide +kernel
theorem dX9_copy_54 : decode cX9_copy 54 = .ok (.iconst 1, 1) := by decide +kernel
theorem dX9_copy_55 : decode cX9_copy 55 = .ok (.invokevirtual 223, 3) := by decide +kernel
theorem dX9_copy_58 : decode cX9_copy 58 = .ok (.ireturn, 1) := by decide +kernel
theorem dX9_copy_59 : decode cX9_copy 59 = .ok (.aload 6, 2) := by decide +kernel
theorem dX9_copy_61 : decode cX9_copy 61 = .ok (.getfield 270, 3) := by decide +kernel
theorem dX9_copy_64 : decode cX9_copy 64 = .ok (.aload 7, 2) := by decide +kernel
theorem dX9_copy_66 : decode cX9_copy 66 = .ok (.getfield 270, 3) := by decide +kernel
theorem dX9_copy_69 : decode cX9_copy 69 = .ok (.if_icmp .eq 9, 3) := by decide +kernel
theorem dX9_copy_72 : decode cX9_copy 72 = .ok (.aload_n 0, 1) := by decide +kernel
theorem dX9_copy_73 : decode cX9_copy 73 = .ok (.iconst 2, 1) := by decide +kernel
theorem dX9_copy_74 : decode cX9_copy 74 = .ok (.invokevirtual 223, 3) := by decide +kernel
theorem dX9_copy_77 : decode cX9_copy 77 = .ok (.ireturn, 1) := by decide +kernel
theorem dX9_copy_78 : decode cX9_copy 78 = .ok (.aload 6, 2) := by decide +kernel
theorem dX9_copy_80 : decode cX9_copy 80 = .ok (.iload_n 2, 1) := by decide +kernel
theorem dX9_copy_81 : decode cX9_copy 81 = .ok (.iload 5, 2) := by decide +kernel
theorem dX9_copy_83 : decode cX9_copy 83 = .ok (.invokevirtual 263, 3) := by decide +kernel
theorem dX9_copy_86 : decode cX9_copy 86 = .ok (.ifCond .eq 15, 3) := by decide +kernel
theorem dX9_copy_89 : decode cX9_copy 89 = .ok (.aload 7, 2) := by decide +kernel
theorem dX9_copy_91 : decode cX9_copy 91 = .ok (.iload 4, 2) := by decide +kernel
theorem dX9_copy_93 : decode cX9_copy 93 = .ok (.iload 5, 2) := by decide +kernel
theorem dX9_copy_95 : decode cX9_copy 95 = .ok (.invokevirtual 263, 3) := by decide +kernel
theorem dX9_copy_98 : decode cX9_copy 98 = .ok (.ifCond .ne 9, 3) := by decide +kernel
theorem dX9_copy_101 : decode cX9_copy 101 = .ok (.aload_n 0, 1) := by decide +kernel
theorem dX9_copy_102 : decode cX9_copy 102 = .ok (.iconst 3, 1) := by decide +kernel
theorem dX9_copy_103 : decode cX9_copy 103 = .ok (.invokevirtual 223, 3) := by decide +kernel
theorem dX9_copy_106 : decode cX9_copy 106 = .ok (.ireturn, 1) := by decide +kernel
theorem dX9_copy_107 : decode cX9_copy 107 = .ok (.aload 6, 2) := by decide +kernel
theorem dX9_copy_109 : decode cX9_copy 109 = .ok (.getfield 227, 3) := by decide +kernel
theorem dX9_copy_112 : decode cX9_copy 112 = .ok (.iload_n 2, 1) := by decide +kernel
theorem dX9_copy_113 : decode cX9_copy 113 = .ok (.aload 7, 2) := by decide +kernel
theorem dX9_copy_115 : decode cX9_copy 115 = .ok (.getfield 227, 3) := by decide +kernel
theorem dX9_copy_118 : decode cX9_copy 118 = .ok (.iload 4, 2) := by decide +kernel
theorem dX9_copy_120 : decode cX9_copy 120 = .ok (.iload 5, 2) := by decide +kernel
theorem dX9_copy_122 : decode cX9_copy 122 = .ok (.invokestatic 273, 3) := by decide +kernel
theorem dX9_copy_125 : decode cX9_copy 125 = .ok (.iload 5, 2) := by decide +kernel
theorem dX9_copy_127 : decode cX9_copy 127 = .ok (.ireturn, 1) := by decide +kernel
theorem dX9_tell_0 : decode cX9_tell 0 = .ok (.aload_n 0, 1) := by decide +kernel
theorem dX9_tell_1 : decode cX9_tell 1 = .ok (.getfield 12, 3) := by decide +kernel
theorem dX9_tell_4 : decode cX9_tell 4 = .ok (.iload_n 1, 1) := by decide +kernel
theorem dX9_tell_5 : decode cX9_tell 5 = .ok (.invokevirtual 69, 3) := by decide +kernel
theorem dX9_tell_8 : decode cX9_tell 8 = .ok (.ifCond .ne 5, 3) := by decide +kernel
theorem dX9_tell_11 : decode cX9_tell 11 = .ok (.iconst (-1), 1) := by decide +kernel
theorem dX9_tell_12 : decode cX9_tell 12 = .ok (.ireturn, 1) := by decide +kernel
theorem dX9_tell_13 : decode cX9_tell 13 = .ok (.aload_n 0, 1) := by decide +kernel
theorem dX9_tell_14 : decode cX9_tell 14 = .ok (.getfield 12, 3) := by decide +kernel
theorem dX9_tell_17 : decode cX9_tell 17 = .ok (.getfield 74, 3) := by decide +kernel
theorem dX9_tell_20 : decode cX9_tell 20 = .ok (.iload_n 1, 1) := by decide +kernel
theorem dX9_tell_21 : decode cX9_tell 21 = .ok (.aaload, 1) := by decide +kernel
theorem dX9_tell_22 : decode cX9_tell 22 = .ok (.getfield 117, 3) := by decide +kernel
theorem dX9_tell_25 : decode cX9_tell 25 = .ok (.tableswitch 86 0 3 #[31, 49, 64, 80], 31) := by decide +kernel
theorem dX9_tell_56 : decode cX9_tell 56 = .ok (.aload_n 0, 1) := by decide +kernel
theorem dX9_tell_57 : decode cX9_tell 57 = .ok (.iconst 1, 1) := by decide +kernel
theorem dX9_tell_58 : decode cX9_tell 58 = .ok (.invokevirtual 279, 3) := by decide +kernel
theorem dX9_tell_61 : decode cX9_tell 61 = .ok (.aload_n 0, 1) := by decide +kernel
theorem dX9_tell_62 : decode cX9_tell 62 = .ok (.getfield 12, 3) := by decide +kernel
theorem dX9_tell_65 : decode cX9_tell 65 = .ok (.getfield 74, 3) := by decide +kernel
theorem dX9_tell_68 : decode cX9_tell 68 = .ok (.iload_n 1, 1) := by decide +kernel
theorem dX9_tell_69 : decode cX9_tell 69 = .ok (.aaload, 1) := by decide +kernel
theorem dX9_tell_70 : decode cX9_tell 70 = .ok (.getfield 283, 3) := by decide +kernel
theorem dX9_tell_73 : decode cX9_tell 73 = .ok (.ireturn, 1) := by decide +kernel
theorem dX9_tell_74 : decode cX9_tell 74 = .ok (.aload_n 0, 1) := by decide +kernel
theorem dX9_tell_75 : decode cX9_tell 75 = .ok (.iconst 2, 1) := by decide +kernel
theorem dX9_tell_76 : decode cX9_tell 76 = .ok (.invokevirtual 279, 3) := by decide +kernel
theorem dX9_tell_79 : decode cX9_tell 79 = .ok (.aload_n 0, 1) := by decide +kernel
theorem dX9_tell_80 : decode cX9_tell 80 = .ok (.getfield 12, 3) := by decide +kernel
theorem dX9_tell_83 : decode cX9_tell 83 = .ok (.getfield 97, 3) := by decide +kernel
theorem dX9_tell_86 : decode cX9_tell 86 = .ok (.iload_n 1, 1) := by decide +kernel
theorem dX9_tell_87 : decode cX9_tell 87 = .ok (.iaload, 1) := by decide +kernel
theorem dX9_tell_88 : decode cX9_tell 88 = .ok (.ireturn, 1) := by decide +kernel
theorem dX9_tell_89 : decode cX9_tell 89 = .ok (.aload_n 0, 1) := by decide +kernel
theorem dX9_tell_90 : decode cX9_tell 90 = .ok (.iconst 3, 1) := by decide +kernel
theorem dX9_tell_91 : decode cX9_tell 91 = .ok (.invokevirtual 279, 3) := by decide +kernel
theorem dX9_tell_94 : decode cX9_tell 94 = .ok (.aload_n 0, 1) := by decide +kernel
theorem dX9_tell_95 : decode cX9_tell 95 = .ok (.getfield 12, 3) := by decide +kernel
theorem dX9_tell_98 : decode cX9_tell 98 = .ok (.getfield 97, 3) := by decide +kernel
theorem dX9_tell_101 : decode cX9_tell 101 = .ok (.iload_n 1, 1) := by decide +kernel
theorem dX9_tell_102 : decode cX9_tell 102 = .ok (.iaload, 1) := by decide +kernel
theorem dX9_tell_103 : decode cX9_tell 103 = .ok (.ineg, 1) := by decide +kernel
theorem dX9_tell_104 : decode cX9_tell 104 = .ok (.ireturn, 1) := by decide +kernel
theorem dX9_tell_105 : decode cX9_tell 105 = .ok (.aload_n 0, 1) := by decide +kernel
theorem dX9_tell_106 : decode cX9_tell 106 = .ok (.iload_n 1, 1) := by decide +kernel
theorem dX9_tell_107 : decode cX9_tell 107 = .ok (.invokevirtual 286, 3) := by decide +kernel
theorem dX9_tell_110 : decode cX9_tell 110 = .ok (.ireturn, 1) := by decide +kernel
theorem dX9_tell_111 : decode cX9_tell 111 = .ok (.aload_n 0, 1) := by decide +kernel
theorem dX9_tell_112 : decode cX9_tell 112 = .ok (.iconst 5, 1) := by decide +kernel
theorem dX9_tell_113 : decode cX9_tell 113 = .ok (.invokevirtual 279, 3) := by decide +kernel
theorem dX9_tell_116 : decode cX9_tell 116 = .ok (.iconst 2, 1) := by decide +kernel
theorem dX9_tell_117 : decode cX9_tell 117 = .ok (.aload_n 0, 1) := by decide +kernel
theorem dX9_tell_118 : decode cX9_tell 118 = .ok (.iload_n 1, 1) := by decide +kernel
theorem dX9_tell_119 : decode cX9_tell 119 = .ok (.invokevirtual 286, 3) := by decide +kernel
theorem dX9_tell_122 : decode cX9_tell 122 = .ok (.imul, 1) := by decide +kernel
theorem dX9_tell_123 : decode cX9_tell 123 = .ok (.ireturn, 1) := by decide +kernel
theorem dX9_spread_0 : decode cX9_spread 0 = .ok (.aload_n 0, 1) := by decide +kernel
theorem dX9_spread_1 : decode cX9_spread 1 = .ok (.getfield 12, 3) := by decide +kernel
theorem dX9_spread_4 : decode cX9_spread 4 = .ok (.iload_n 1, 1) := by decide +kernel
theorem dX9_spread_5 : decode cX9_spread 5 = .ok (.invokevirtual 69, 3) := by decide +kernel
theorem dX9_spread_8 : decode cX9_spread 8 = .ok (.ifCond .ne 5, 3) := by decide +kernel
theorem dX9_spread_11 : decode cX9_spread 11 = .ok (.iconst (-1), 1) := by decide +kernel
theorem dX9_spread_12 : decode cX9_spread 12 = .ok (.ireturn, 1) := by decide +kernel
theorem dX9_spread_13 : decode cX9_spread 13 = .ok (.aload_n 0, 1) := by decide +kernel
theorem dX9_spread_14 : decode cX9_spread 14 = .ok (.getfield 12, 3) := by decide +kernel
theorem dX9_spread_17 : decode cX9_spread 17 = .ok (.getfield 74, 3) := by decide +kernel
theorem dX9_spread_20 : decode cX9_spread 20 = .ok (.iload_n 1, 1) := by decide +kernel
theorem dX9_spread_21 : decode cX9_spread 21 = .ok (.aaload, 1) := by decide +kernel
theorem dX9_spread_22 : decode cX9_spread 22 = .ok (.astore_n 2, 1) := by decide +kernel
theorem dX9_spread_23 : decode cX9_spread 23 = .ok (.aload_n 2, 1) := by decide +kernel
theorem dX9_spread_24 : decode cX9_spread 24 = .ok (.getfield 117, 3) := by decide +kernel
theorem dX9_spread_27 : decode cX9_spread 27 = .ok (.iconst 4, 1) := by decide +kernel
theorem dX9_spread_28 : decode cX9_spread 28 = .ok (.if_icmp .eq 9, 3) := by decide +kernel
theorem dX9_spread_31 : decode cX9_spread 31 = .ok (.aload_n 0, 1) := by decide +kernel
theorem dX9_spread_32 : decode cX9_spread 32 = .ok (.aload_n 2, 1) := by decide +kernel
theorem dX9_spread_33 : decode cX9_spread 33 = .ok (.invokevirtual 289, 3) := by decide +kernel
theorem dX9_spread_36 : decode cX9_spread 36 = .ok (.ireturn, 1) := by decide +kernel
theorem dX9_spread_37 : decode cX9_spread 37 = .ok (.aload_n 0, 1) := by decide +kernel
theorem dX9_spread_38 : decode cX9_spread 38 = .ok (.bipush 7, 2) := by decide +kernel
theorem dX9_spread_40 : decode cX9_spread 40 = .ok (.invokevirtual 279, 3) := by decide +kernel
theorem dX9_spread_43 : decode cX9_spread 43 = .ok (.aload_n 2, 1) := by decide +kernel
theorem dX9_spread_44 : decode cX9_spread 44 = .ok (.getfield 93, 3) := by decide +kernel
theorem dX9_spread_47 : decode cX9_spread 47 = .ok (.ifCond .eq 7, 3) := by decide +kernel
theorem dX9_spread_50 : decode cX9_spread 50 = .ok (.iconst 0, 1) := by decide +kernel
theorem dX9_spread_51 : decode cX9_spread 51 = .ok (.goto 8, 3) := by decide +kernel
theorem dX9_spread_54 : decode cX9_spread 54 = .ok (.aload_n 0, 1) := by decide +kernel
theorem dX9_spread_55 : decode cX9_spread 55 = .ok (.aload_n 2, 1) := by decide +kernel
theorem dX9_spread_56 : decode cX9_spread 56 = .ok (.invokevirtual 289, 3) := by decide +kernel
theorem dX9_spread_59 : decode cX9_spread 59 = .ok (.ireturn, 1) := by decide +kernel
theorem dX9_as_0 : decode cX9_as 0 = .ok (.aload_n 0, 1) := by decide +kernel
theorem dX9_as_1 : decode cX9_as 1 = .ok (.iconst 0, 1) := by decide +kernel
theorem dX9_as_2 : decode cX9_as 2 = .ok (.putfield 210, 3) := by decide +kernel
theorem dX9_as_5 : decode cX9_as 5 = .ok (.aload_n 0, 1) := by decide +kernel
theorem dX9_as_6 : decode cX9_as 6 = .ok (.getfield 12, 3) := by decide +kernel
theorem dX9_as_9 : decode cX9_as 9 = .ok (.iload_n 1, 1) := by decide +kernel
theorem dX9_as_10 : decode cX9_as 10 = .ok (.invokevirtual 69, 3) := by decide +kernel
theorem dX9_as_13 : decode cX9_as 13 = .ok (.ifCond .ne 5, 3) := by decide +kernel
theorem dX9_as_16 : decode cX9_as 16 = .ok (.iconst (-1), 1) := by decide +kernel
theorem dX9_as_17 : decode cX9_as 17 = .ok (.ireturn, 1) := by decide +kernel
theorem dX9_as_18 : decode cX9_as 18 = .ok (.iload_n 2, 1) := by decide +kernel
theorem dX9_as_19 : decode cX9_as 19 = .ok (.iconst 0, 1) := by decide +kernel
theorem dX9_as_20 : decode cX9_as 20 = .ok (.iconst 4, 1) := by decide +kernel
theorem dX9_as_21 : decode cX9_as 21 = .ok (.invokestatic 61, 3) := by decide +kernel
theorem dX9_as_24 : decode cX9_as 24 = .ok (.ifCond .ne 6, 3) := by decide +kernel
theorem dX9_as_27 : decode cX9_as 27 = .ok (.bipush (-2), 2) := by decide +kernel
theorem dX9_as_29 : decode cX9_as 29 = .ok (.ireturn, 1) := by decide +kernel
theorem dX9_as_30 : decode cX9_as 30 = .ok (.aload_n 0, 1) := by decide +kernel
theorem dX9_as_31 : decode cX9_as 31 = .ok (.getfield 12, 3) := by decide +kernel
theorem dX9_as_34 : decode cX9_as 34 = .ok (.getfield 74, 3) := by decide +kernel
theorem dX9_as_37 : decode cX9_as 37 = .ok (.iload_n 1, 1) := by decide +kernel
theorem dX9_as_38 : decode cX9_as 38 = .ok (.aaload, 1) := by decide +kernel
theorem dX9_as_39 : decode cX9_as 39 = .ok (.iload_n 2, 1) := by decide +kernel
theorem dX9_as_40 : decode cX9_as 40 = .ok (.invokevirtual 293, 3) := by decide +kernel
theorem dX9_as_43 : decode cX9_as 43 = .ok (.ifCond .eq 7, 3) := by decide +kernel
theorem dX9_as_46 : decode cX9_as 46 = .ok (.iconst 1, 1) := by decide +kernel
theorem dX9_as_47 : decode cX9_as 47 = .ok (.goto 8, 3) := by decide +kernel
theorem dX9_as_50 : decode cX9_as 50 = .ok (.aload_n 0, 1) := by decide +kernel
theorem dX9_as_51 : decode cX9_as 51 = .ok (.iconst 2, 1) := by decide +kernel
theorem dX9_as_52 : decode cX9_as 52 = .ok (.invokevirtual 223, 3) := by decide +kernel
theorem dX9_as_55 : decode cX9_as 55 = .ok (.ireturn, 1) := by decide +kernel
theorem dX9_trace_0 : decode cX9_trace 0 = .ok (.aload_n 0, 1) := by decide +kernel
theorem dX9_trace_1 : decode cX9_trace 1 = .ok (.getfield 296, 3) := by decide +kernel
theorem dX9_trace_4 : decode cX9_trace 4 = .ok (.ireturn, 1) := by decide +kernel
theorem dX9_fault_0 : decode cX9_fault 0 = .ok (.aload_n 0, 1) := by decide +kernel
theorem dX9_fault_1 : decode cX9_fault 1 = .ok (.getfield 210, 3) := by decide +kernel
theorem dX9_fault_4 : decode cX9_fault 4 = .ok (.ireturn, 1) := by decide +kernel
theorem dX9_told_0 : decode cX9_told 0 = .ok (.iload_n 1, 1) := by decide +kernel
theorem dX9_told_1 : decode cX9_told 1 = .ok (.tableswitch 113 0 5 #[39, 47, 55, 60, 68, 105], 39) := by decide +kernel
theorem dX9_told_40 : decode cX9_told 40 = .ok (.aload_n 0, 1) := by decide +kernel
theorem dX9_told_41 : decode cX9_told 41 = .ok (.getfield 12, 3) := by decide +kernel
theorem dX9_told_44 : decode cX9_told 44 = .ok (.getfield 139, 3) := by decide +kernel
theorem dX9_told_47 : decode cX9_told 47 = .ok (.ireturn, 1) := by decide +kernel
theorem dX9_told_48 : decode cX9_told 48 = .ok (.aload_n 0, 1) := by decide +kernel
theorem dX9_told_49 : decode cX9_told 49 = .ok (.getfield 28, 3) := by decide +kernel
theorem dX9_told_52 : decode cX9_told 52 = .ok (.getfield 299, 3) := by decide +kernel
theorem dX9_told_55 : decode cX9_told 55 = .ok (.ireturn, 1) := by decide +kernel
theorem dX9_told_56 : decode cX9_told 56 = .ok (.aload_n 0, 1) := by decide +kernel
theorem dX9_told_57 : decode cX9_told 57 = .ok (.invokevirtual 300, 3) := by decide +kernel
theorem dX9_told_60 : decode cX9_told 60 = .ok (.ireturn, 1) := by decide +kernel
theorem dX9_told_61 : decode cX9_told 61 = .ok (.aload_n 0, 1) := by decide +kernel
theorem dX9_told_62 : decode cX9_told 62 = .ok (.getfield 12, 3) := by decide +kernel
theorem dX9_told_65 : decode cX9_told 65 = .ok (.invokevirtual 179, 3) := by decide +kernel
theorem dX9_told_68 : decode cX9_told 68 = .ok (.ireturn, 1) := by decide +kernel
theorem dX9_told_69 : decode cX9_told 69 = .ok (.aload_n 0, 1) := by decide +kernel
theorem dX9_told_70 : decode cX9_told 70 = .ok (.getfield 42, 3) := by decide +kernel
theorem dX9_told_73 : decode cX9_told 73 = .ok (.invokevirtual 202, 3) := by decide +kernel
theorem dX9_told_76 : decode cX9_told 76 = .ok (.ifCond .eq 27, 3) := by decide +kernel
theorem dX9_told_79 : decode cX9_told 79 = .ok (.aload_n 0, 1) := by decide +kernel
theorem dX9_told_80 : decode cX9_told 80 = .ok (.getfield 12, 3) := by decide +kernel
theorem dX9_told_83 : decode cX9_told 83 = .ok (.aload_n 0, 1) := by decide +kernel
theorem dX9_told_84 : decode cX9_told 84 = .ok (.getfield 42, 3) := by decide +kernel
theorem dX9_told_87 : decode cX9_told 87 = .ok (.getfield 207, 3) := by decide +kernel
theorem dX9_told_90 : decode cX9_told 90 = .ok (.aload_n 0, 1) := by decide +kernel
theorem dX9_told_91 : decode cX9_told 91 = .ok (.getfield 42, 3) := by decide +kernel
theorem dX9_told_94 : decode cX9_told 94 = .ok (.getfield 206, 3) := by decide +kernel
theorem dX9_told_97 : decode cX9_told 97 = .ok (.invokevirtual 241, 3) := by decide +kernel
theorem dX9_told_100 : decode cX9_told 100 = .ok (.goto 5, 3) := by decide +kernel
theorem dX9_told_103 : decode cX9_told 103 = .ok (.bipush (-9), 2) := by decide +kernel
theorem dX9_told_105 : decode cX9_told 105 = .ok (.ireturn, 1) := by decide +kernel
theorem dX9_told_106 : decode cX9_told 106 = .ok (.aload_n 0, 1) := by decide +kernel
theorem dX9_told_107 : decode cX9_told 107 = .ok (.getfield 49, 3) := by decide +kernel
theorem dX9_told_110 : decode cX9_told 110 = .ok (.getfield 248, 3) := by decide +kernel
theorem dX9_told_113 : decode cX9_told 113 = .ok (.ireturn, 1) := by decide +kernel
theorem dX9_told_114 : decode cX9_told 114 = .ok (.bipush (-2), 2) := by decide +kernel
theorem dX9_told_116 : decode cX9_told 116 = .ok (.ireturn, 1) := by decide +kernel
theorem dX9_isWithin_0 : decode cX9_isWithin 0 = .ok (.iload_n 0, 1) := by decide +kernel
theorem dX9_isWithin_1 : decode cX9_isWithin 1 = .ok (.iload_n 1, 1) := by decide +kernel
theorem dX9_isWithin_2 : decode cX9_isWithin 2 = .ok (.if_icmp .lt 12, 3) := by decide +kernel
theorem dX9_isWithin_5 : decode cX9_isWithin 5 = .ok (.iload_n 0, 1) := by decide +kernel
theorem dX9_isWithin_6 : decode cX9_isWithin 6 = .ok (.iload_n 2, 1) := by decide +kernel
theorem dX9_isWithin_7 : decode cX9_isWithin 7 = .ok (.if_icmp .gt 7, 3) := by decide +kernel
theorem dX9_isWithin_10 : decode cX9_isWithin 10 = .ok (.iconst 1, 1) := by decide +kernel
theorem dX9_isWithin_11 : decode cX9_isWithin 11 = .ok (.goto 4, 3) := by decide +kernel
theorem dX9_isWithin_14 : decode cX9_isWithin 14 = .ok (.iconst 0, 1) := by decide +kernel
theorem dX9_isWithin_15 : decode cX9_isWithin 15 = .ok (.ireturn, 1) := by decide +kernel
theorem dX9_isMode_0 : decode cX9_isMode 0 = .ok (.iload_n 0, 1) := by decide +kernel
theorem dX9_isMode_1 : decode cX9_isMode 1 = .ok (.iconst 0, 1) := by decide +kernel
theorem dX9_isMode_2 : decode cX9_isMode 2 = .ok (.iconst 2, 1) := by decide +kernel
theorem dX9_isMode_3 : decode cX9_isMode 3 = .ok (.invokestatic 61, 3) := by decide +kernel
theorem dX9_isMode_6 : decode cX9_isMode 6 = .ok (.ireturn, 1) := by decide +kernel
theorem dX9_isSheet_0 : decode cX9_isSheet 0 = .ok (.iload_n 0, 1) := by decide +kernel
theorem dX9_isSheet_1 : decode cX9_isSheet 1 = .ok (.iconst 0, 1) := by decide +kernel
theorem dX9_isSheet_2 : decode cX9_isSheet 2 = .ok (.iconst 3, 1) := by decide +kernel
theorem dX9_isSheet_3 : decode cX9_isSheet 3 = .ok (.invokestatic 61, 3) := by decide +kernel
theorem dX9_isSheet_6 : decode cX9_isSheet 6 = .ok (.ireturn, 1) := by decide +kernel
theorem dX9_isLane_0 : decode cX9_isLane 0 = .ok (.iload_n 0, 1) := by decide +kernel
theorem dX9_isLane_1 : decode cX9_isLane 1 = .ok (.iconst 0, 1) := by decide +kernel
theorem dX9_isLane_2 : decode cX9_isLane 2 = .ok (.iconst 2, 1) := by decide +kernel
theorem dX9_isLane_3 : decode cX9_isLane 3 = .ok (.invokestatic 61, 3) := by decide +kernel
theorem dX9_isLane_6 : decode cX9_isLane 6 = .ok (.ireturn, 1) := by decide +kernel
theorem dX9_grow_0 : decode cX9_grow 0 = .ok (.aload_n 0, 1) := by decide +kernel
theorem dX9_grow_1 : decode cX9_grow 1 = .ok (.getfield 12, 3) := by decide +kernel
theorem dX9_grow_4 : decode cX9_grow 4 = .ok (.iload_n 1, 1) := by decide +kernel
theorem dX9_grow_5 : decode cX9_grow 5 = .ok (.iload_n 2, 1) := by decide +kernel
theorem dX9_grow_6 : decode cX9_grow 6 = .ok (.iload_n 3, 1) := by decide +kernel
theorem dX9_grow_7 : decode cX9_grow 7 = .ok (.iload 4, 2) := by decide +kernel
theorem dX9_grow_9 : decode cX9_grow 9 = .ok (.iload 5, 2) := by decide +kernel
theorem dX9_grow_11 : decode cX9_grow 11 = .ok (.iload 6, 2) := by decide +kernel
theorem dX9_grow_13 : decode cX9_grow 13 = .ok (.invokevirtual 303, 3) := by decide +kernel
theorem dX9_grow_16 : decode cX9_grow 16 = .ok (.istore 7, 2) := by decide +kernel
theorem dX9_grow_18 : decode cX9_grow 18 = .ok (.iload 7, 2) := by decide +kernel
theorem dX9_grow_20 : decode cX9_grow 20 = .ok (.ifCond .lt 10, 3) := by decide +kernel
theorem dX9_grow_23 : decode cX9_grow 23 = .ok (.aload_n 0, 1) := by decide +kernel
theorem dX9_grow_24 : decode cX9_grow 24 = .ok (.getfield 49, 3) := by decide +kernel
theorem dX9_grow_27 : decode cX9_grow 27 = .ok (.invokevirtual 87, 3) := by decide +kernel
theorem dX9_grow_30 : decode cX9_grow 30 = .ok (.iload 7, 2) := by decide +kernel
theorem dX9_grow_32 : decode cX9_grow 32 = .ok (.ireturn, 1) := by decide +kernel
theorem dX9_isWellNow_0 : decode cX9_isWellNow 0 = .ok (.aload_n 0, 1) := by decide +kernel
theorem dX9_isWellNow_1 : decode cX9_isWellNow 1 = .ok (.getfield 21, 3) := by decide +kernel
theorem dX9_isWellNow_4 : decode cX9_isWellNow 4 = .ok (.aload_n 0, 1) := by decide +kernel
theorem dX9_isWellNow_5 : decode cX9_isWellNow 5 = .ok (.getfield 12, 3) := by decide +kernel
theorem dX9_isWellNow_8 : decode cX9_isWellNow 8 = .ok (.aload_n 0, 1) := by decide +kernel
theorem dX9_isWellNow_9 : decode cX9_isWellNow 9 = .ok (.getfield 12, 3) := by decide +kernel
theorem dX9_isWellNow_12 : decode cX9_isWellNow 12 = .ok (.getfield 97, 3) := by decide +kernel
theorem dX9_isWellNow_15 : decode cX9_isWellNow 15 = .ok (.invokevirtual 103, 3) := by decide +kernel
theorem dX9_isWellNow_18 : decode cX9_isWellNow 18 = .ok (.aload_n 0, 1) := by decide +kernel
theorem dX9_isWellNow_19 : decode cX9_isWellNow 19 = .ok (.getfield 21, 3) := by decide +kernel
theorem dX9_isWellNow_22 : decode cX9_isWellNow 22 = .ok (.aload_n 0, 1) := by decide +kernel
theorem dX9_isWellNow_23 : decode cX9_isWellNow 23 = .ok (.getfield 12, 3) := by decide +kernel
theorem dX9_isWellNow_26 : decode cX9_isWellNow 26 = .ok (.getfield 74, 3) := by decide +kernel
theorem dX9_isWellNow_29 : decode cX9_isWellNow 29 = .ok (.iload_n 1, 1) := by decide +kernel
theorem dX9_isWellNow_30 : decode cX9_isWellNow 30 = .ok (.aaload, 1) := by decide +kernel
theorem dX9_isWellNow_31 : decode cX9_isWellNow 31 = .ok (.iload_n 1, 1) := by decide +kernel
theorem dX9_isWellNow_32 : decode cX9_isWellNow 32 = .ok (.invokevirtual 304, 3) := by decide +kernel
theorem dX9_isWellNow_35 : decode cX9_isWellNow 35 = .ok (.ireturn, 1) := by decide +kernel
theorem dX9_countMet_0 : decode cX9_countMet 0 = .ok (.aload_n 0, 1) := by decide +kernel
theorem dX9_countMet_1 : decode cX9_countMet 1 = .ok (.getfield 21, 3) := by decide +kernel
theorem dX9_countMet_4 : decode cX9_countMet 4 = .ok (.aload_n 0, 1) := by decide +kernel
theorem dX9_countMet_5 : decode cX9_countMet 5 = .ok (.getfield 12, 3) := by decide +kernel
theorem dX9_countMet_8 : decode cX9_countMet 8 = .ok (.aload_n 0, 1) := by decide +kernel
theorem dX9_countMet_9 : decode cX9_countMet 9 = .ok (.getfield 12, 3) := by decide +kernel
theorem dX9_countMet_12 : decode cX9_countMet 12 = .ok (.getfield 97, 3) := by decide +kernel
theorem dX9_countMet_15 : decode cX9_countMet 15 = .ok (.invokevirtual 103, 3) := by decide +kernel
theorem dX9_countMet_18 : decode cX9_countMet 18 = .ok (.iconst 0, 1) := by decide +kernel
theorem dX9_countMet_19 : decode cX9_countMet 19 = .ok (.istore_n 1, 1) := by decide +kernel
theorem dX9_countMet_20 : decode cX9_countMet 20 = .ok (.iconst 0, 1) := by decide +kernel
theorem dX9_countMet_21 : decode cX9_countMet 21 = .ok (.istore_n 2, 1) := by decide +kernel
theorem dX9_countMet_22 : decode cX9_countMet 22 = .ok (.iload_n 2, 1) := by decide +kernel
theorem dX9_countMet_23 : decode cX9_countMet 23 = .ok (.aload_n 0, 1) := by decide +kernel
theorem dX9_countMet_24 : decode cX9_countMet 24 = .ok (.getfield 28, 3) := by decide +kernel
theorem dX9_countMet_27 : decode cX9_countMet 27 = .ok (.getfield 299, 3) := by decide +kernel
theorem dX9_countMet_30 : decode cX9_countMet 30 = .ok (.if_icmp .ge 37, 3) := by decide +kernel
theorem dX9_countMet_33 : decode cX9_countMet 33 = .ok (.aload_n 0, 1) := by decide +kernel
theorem dX9_countMet_34 : decode cX9_countMet 34 = .ok (.getfield 28, 3) := by decide +kernel
theorem dX9_countMet_37 : decode cX9_countMet 37 = .ok (.getfield 153, 3) := by decide +kernel
theorem dX9_countMet_40 : decode cX9_countMet 40 = .ok (.iload_n 2, 1) := by decide +kernel
theorem dX9_countMet_41 : decode cX9_countMet 41 = .ok (.aaload, 1) := by decide +kernel
theorem dX9_countMet_42 : decode cX9_countMet 42 = .ok (.astore_n 3, 1) := by decide +kernel
theorem dX9_countMet_43 : decode cX9_countMet 43 = .ok (.aload_n 3, 1) := by decide +kernel
theorem dX9_countMet_44 : decode cX9_countMet 44 = .ok (.aload_n 0, 1) := by decide +kernel
theorem dX9_countMet_45 : decode cX9_countMet 45 = .ok (.getfield 21, 3) := by decide +kernel
theorem dX9_countMet_48 : decode cX9_countMet 48 = .ok (.invokevirtual 157, 3) := by decide +kernel
theorem dX9_countMet_51 : decode cX9_countMet 51 = .ok (.aload_n 3, 1) := by decide +kernel
theorem dX9_countMet_52 : decode cX9_countMet 52 = .ok (.getfield 176, 3) := by decide +kernel
theorem dX9_countMet_55 : decode cX9_countMet 55 = .ok (.if_icmp .gt 6, 3) := by decide +kernel
theorem dX9_countMet_58 : decode cX9_countMet 58 = .ok (.iinc 1 1, 3) := by decide +kernel
theorem dX9_countMet_61 : decode cX9_countMet 61 = .ok (.iinc 2 1, 3) := by decide +kernel
theorem dX9_countMet_64 : decode cX9_countMet 64 = .ok (.goto (-42), 3) := by decide +kernel
theorem dX9_countMet_67 : decode cX9_countMet 67 = .ok (.iload_n 1, 1) := by decide +kernel
theorem dX9_countMet_68 : decode cX9_countMet 68 = .ok (.ireturn, 1) := by decide +kernel
theorem dX9_fail_0 : decode cX9_fail 0 = .ok (.aload_n 0, 1) := by decide +kernel
theorem dX9_fail_1 : decode cX9_fail 1 = .ok (.iload_n 1, 1) := by decide +kernel
theorem dX9_fail_2 : decode cX9_fail 2 = .ok (.putfield 210, 3) := by decide +kernel
theorem dX9_fail_5 : decode cX9_fail 5 = .ok (.bipush (-10), 2) := by decide +kernel
theorem dX9_fail_7 : decode cX9_fail 7 = .ok (.iload_n 1, 1) := by decide +kernel
theorem dX9_fail_8 : decode cX9_fail 8 = .ok (.isub, 1) := by decide +kernel
theorem dX9_fail_9 : decode cX9_fail 9 = .ok (.ireturn, 1) := by decide +kernel
theorem dX9_leave_0 : decode cX9_leave 0 = .ok (.aload_n 0, 1) := by decide +kernel
theorem dX9_leave_1 : decode cX9_leave 1 = .ok (.bipush 31, 2) := by decide +kernel
theorem dX9_leave_3 : decode cX9_leave 3 = .ok (.aload_n 0, 1) := by decide +kernel
theorem dX9_leave_4 : decode cX9_leave 4 = .ok (.getfield 296, 3) := by decide +kernel
theorem dX9_leave_7 : decode cX9_leave 7 = .ok (.imul, 1) := by decide +kernel
theorem dX9_leave_8 : decode cX9_leave 8 = .ok (.iload_n 1, 1) := by decide +kernel
theorem dX9_leave_9 : decode cX9_leave 9 = .ok (.iadd, 1) := by decide +kernel
theorem dX9_leave_10 : decode cX9_leave 10 = .ok (.putfield 296, 3) := by decide +kernel
theorem dX9_leave_13 : decode cX9_leave 13 = .ok (.return_, 1) := by decide +kernel
theorem dX9_tellChoice_0 : decode cX9_tellChoice 0 = .ok (.aload_n 0, 1) := by decide +kernel
theorem dX9_tellChoice_1 : decode cX9_tellChoice 1 = .ok (.iconst 4, 1) := by decide +kernel
theorem dX9_tellChoice_2 : decode cX9_tellChoice 2 = .ok (.invokevirtual 279, 3) := by decide +kernel
theorem dX9_tellChoice_5 : decode cX9_tellChoice 5 = .ok (.bipush 100, 2) := by decide +kernel
theorem dX9_tellChoice_7 : decode cX9_tellChoice 7 = .ok (.aload_n 0, 1) := by decide +kernel
theorem dX9_tellChoice_8 : decode cX9_tellChoice 8 = .ok (.getfield 12, 3) := by decide +kernel
theorem dX9_tellChoice_11 : decode cX9_tellChoice 11 = .ok (.getfield 97, 3) := by decide +kernel
theorem dX9_tellChoice_14 : decode cX9_tellChoice 14 = .ok (.iload_n 1, 1) := by decide +kernel
theorem dX9_tellChoice_15 : decode cX9_tellChoice 15 = .ok (.iaload, 1) := by decide +kernel
theorem dX9_tellChoice_16 : decode cX9_tellChoice 16 = .ok (.iadd, 1) := by decide +kernel
theorem dX9_tellChoice_17 : decode cX9_tellChoice 17 = .ok (.ireturn, 1) := by decide +kernel
theorem dX9_spreadLent_0 : decode cX9_spreadLent 0 = .ok (.aload_n 0, 1) := by decide +kernel
theorem dX9_spreadLent_1 : decode cX9_spreadLent 1 = .ok (.bipush 6, 2) := by decide +kernel
theorem dX9_spreadLent_3 : decode cX9_spreadLent 3 = .ok (.invokevirtual 279, 3) := by decide +kernel
theorem dX9_spreadLent_6 : decode cX9_spreadLent 6 = .ok (.aload_n 1, 1) := by decide +kernel
theorem dX9_spreadLent_7 : decode cX9_spreadLent 7 = .ok (.invokevirtual 308, 3) := by decide +kernel
theorem dX9_spreadLent_10 : decode cX9_spreadLent 10 = .ok (.ireturn, 1) := by decide +kernel
theorem dX10_init_0 : decode cX10_init 0 = .ok (.aload_n 0, 1) := by decide +kernel
theorem dX10_init_1 : decode cX10_init 1 = .ok (.invokespecial 1, 3) := by decide +kernel
theorem dX10_init_4 : decode cX10_init 4 = .ok (.aload_n 0, 1) := by decide +kernel
theorem dX10_init_5 : decode cX10_init 5 = .ok (.bipush 16, 2) := by decide +kernel
theorem dX10_init_7 : decode cX10_init 7 = .ok (.newarray .int, 2) := by decide +kernel
theorem dX10_init_9 : decode cX10_init 9 = .ok (.putfield 7, 3) := by decide +kernel
theorem dX10_init_12 : decode cX10_init 12 = .ok (.aload_n 0, 1) := by decide +kernel
theorem dX10_init_13 : decode cX10_init 13 = .ok (.bipush 16, 2) := by decide +kernel
theorem dX10_init_15 : decode cX10_init 15 = .ok (.newarray .int, 2) := by decide +kernel
theorem dX10_init_17 : decode cX10_init 17 = .ok (.putfield 13, 3) := by decide +kernel
theorem dX10_init_20 : decode cX10_init 20 = .ok (.aload_n 0, 1) := by decide +kernel
theorem dX10_init_21 : decode cX10_init 21 = .ok (.bipush 16, 2) := by decide +kernel
theorem dX10_init_23 : decode cX10_init 23 = .ok (.newarray .int, 2) := by decide +kernel
theorem dX10_init_25 : decode cX10_init 25 = .ok (.putfield 16, 3) := by decide +kernel
theorem dX10_init_28 : decode cX10_init 28 = .ok (.aload_n 0, 1) := by decide +kernel
theorem dX10_init_29 : decode cX10_init 29 = .ok (.bipush 16, 2) := by decide +kernel
theorem dX10_init_31 : decode cX10_init 31 = .ok (.newarray .int, 2) := by decide +kernel
theorem dX10_init_33 : decode cX10_init 33 = .ok (.putfield 19, 3) := by decide +kernel
theorem dX10_init_36 : decode cX10_init 36 = .ok (.aload_n 0, 1) := by decide +kernel
theorem dX10_init_37 : decode cX10_init 37 = .ok (.bipush 16, 2) := by decide +kernel
theorem dX10_init_39 : decode cX10_init 39 = .ok (.newarray .int, 2) := by decide +kernel
theorem dX10_init_41 : decode cX10_init 41 = .ok (.putfield 22, 3) := by decide +kernel
theorem dX10_init_44 : decode cX10_init 44 = .ok (.aload_n 0, 1) := by decide +kernel
theorem dX10_init_45 : decode cX10_init 45 = .ok (.bipush 16, 2) := by decide +kernel
theorem dX10_init_47 : decode cX10_init 47 = .ok (.newarray .int, 2) := by decide +kernel
theorem dX10_init_49 : decode cX10_init 49 = .ok (.putfield 25, 3) := by decide +kernel
theorem dX10_init_52 : decode cX10_init 52 = .ok (.aload_n 0, 1) := by decide +kernel
theorem dX10_init_53 : decode cX10_init 53 = .ok (.bipush 16, 2) := by decide +kernel
theorem dX10_init_55 : decode cX10_init 55 = .ok (.newarray .boolean, 2) := by decide +kernel
theorem dX10_init_57 : decode cX10_init 57 = .ok (.putfield 28, 3) := by decide +kernel
theorem dX10_init_60 : decode cX10_init 60 = .ok (.aload_n 0, 1) := by decide +kernel
theorem dX10_init_61 : decode cX10_init 61 = .ok (.bipush 16, 2) := by decide +kernel
theorem dX10_init_63 : decode cX10_init 63 = .ok (.newarray .long, 2) := by decide +kernel
theorem dX10_init_65 : decode cX10_init 65 = .ok (.putfield 32, 3) := by decide +kernel
theorem dX10_init_68 : decode cX10_init 68 = .ok (.aload_n 0, 1) := by decide +kernel
theorem dX10_init_69 : decode cX10_init 69 = .ok (.bipush 16, 2) := by decide +kernel
theorem dX10_init_71 : decode cX10_init 71 = .ok (.newarray .long, 2) := by decide +kernel
theorem dX10_init_73 : decode cX10_init 73 = .ok (.putfield 36, 3) := by decide +kernel
theorem dX10_init_76 : decode cX10_init 76 = .ok (.aload_n 0, 1) := by decide +kernel
theorem dX10_init_77 : decode cX10_init 77 = .ok (.bipush 16, 2) := by decide +kernel
theorem dX10_init_79 : decode cX10_init 79 = .ok (.newarray .int, 2) := by decide +kernel
theorem dX10_init_81 : decode cX10_init 81 = .ok (.putfield 39, 3) := by decide +kernel
theorem dX10_init_84 : decode cX10_init 84 = .ok (.aload_n 0, 1) := by decide +kernel
theorem dX10_init_85 : decode cX10_init 85 = .ok (.bipush 16, 2) := by decide +kernel
theorem dX10_init_87 : decode cX10_init 87 = .ok (.newarray .long, 2) := by decide +kernel
theorem dX10_init_89 : decode cX10_init 89 = .ok (.putfield 42, 3) := by decide +kernel
theorem dX10_init_92 : decode cX10_init 92 = .ok (.aload_n 0, 1) := by decide +kernel
theorem dX10_init_93 : decode cX10_init 93 = .ok (.bipush 16, 2) := by decide +kernel
theorem dX10_init_95 : decode cX10_init 95 = .ok (.newarray .long, 2) := by decide +kernel
theorem dX10_init_97 : decode cX10_init 97 = .ok (.putfield 45, 3) := by decide +kernel
theorem dX10_init_100 : decode cX10_init 100 = .ok (.aload_n 0, 1) := by decide +kernel
theorem dX10_init_101 : decode cX10_init 101 = .ok (.bipush 12, 2) := by decide +kernel
theorem dX10_init_103 : decode cX10_init 103 = .ok (.newarray .int, 2) := by decide +kernel
theorem dX10_init_105 : decode cX10_init 105 = .ok (.putfield 48, 3) := by decide +kernel
theorem dX10_init_108 : decode cX10_init 108 = .ok (.aload_n 0, 1) := by decide +kernel
theorem dX10_init_109 : decode cX10_init 109 = .ok (.bipush 12, 2) := by decide +kernel
theorem dX10_init_111 : decode cX10_init 111 = .ok (.newarray .int, 2) := by decide +kernel
theorem dX10_init_113 : decode cX10_init 113 = .ok (.putfield 51, 3) := by decide +kernel
theorem dX10_init_116 : decode cX10_init 116 = .ok (.aload_n 0, 1) := by decide +kernel
theorem dX10_init_117 : decode cX10_init 117 = .ok (.bipush 12, 2) := by decide +kernel
theorem dX10_init_119 : decode cX10_init 119 = .ok (.newarray .int, 2) := by decide +kernel
theorem dX10_init_121 : decode cX10_init 121 = .ok (.putfield 54, 3) := by decide +kernel
theorem dX10_init_124 : decode cX10_init 124 = .ok (.aload_n 0, 1) := by decide +kernel
theorem dX10_init_125 : decode cX10_init 125 = .ok (.bipush 12, 2) := by decide +kernel
theorem dX10_init_127 : decode cX10_init 127 = .ok (.newarray .int, 2) := by decide +kernel
theorem dX10_init_129 : decode cX10_init 129 = .ok (.putfield 57, 3) := by decide +kernel
theorem dX10_init_132 : decode cX10_init 132 = .ok (.aload_n 0, 1) := by decide +kernel
theorem dX10_init_133 : decode cX10_init 133 = .ok (.bipush 12, 2) := by decide +kernel
theorem dX10_init_135 : decode cX10_init 135 = .ok (.newarray .int, 2) := by decide +kernel
theorem dX10_init_137 : decode cX10_init 137 = .ok (.putfield 60, 3) := by decide +kernel
theorem dX10_init_140 : decode cX10_init 140 = .ok (.aload_n 0, 1) := by decide +kernel
theorem dX10_init_141 : decode cX10_init 141 = .ok (.bipush 12, 2) := by decide +kernel
theorem dX10_init_143 : decode cX10_init 143 = .ok (.newarray .int, 2) := by decide +kernel
theorem dX10_init_145 : decode cX10_init 145 = .ok (.putfield 63, 3) := by decide +kernel
theorem dX10_init_148 : decode cX10_init 148 = .ok (.aload_n 0, 1) := by decide +kernel
theorem dX10_init_149 : decode cX10_init 149 = .ok (.bipush 16, 2) := by decide +kernel
theorem dX10_init_151 : decode cX10_init 151 = .ok (.newarray .int, 2) := by decide +kernel
theorem dX10_init_153 : decode cX10_init 153 = .ok (.putfield 66, 3) := by decide +kernel
theorem dX10_init_156 : decode cX10_init 156 = .ok (.aload_n 0, 1) := by decide +kernel
theorem dX10_init_157 : decode cX10_init 157 = .ok (.bipush 16, 2) := by decide +kernel
theorem dX10_init_159 : decode cX10_init 159 = .ok (.newarray .int, 2) := by decide +kernel
theorem dX10_init_161 : decode cX10_init 161 = .ok (.putfield 69, 3) := by decide +kernel
theorem dX10_init_164 : decode cX10_init 164 = .ok (.aload_n 0, 1) := by decide +kernel
theorem dX10_init_165 : decode cX10_init 165 = .ok (.iconst 4, 1) := by decide +kernel
theorem dX10_init_166 : decode cX10_init 166 = .ok (.newarray .int, 2) := by decide +kernel
theorem dX10_init_168 : decode cX10_init 168 = .ok (.putfield 72, 3) := by decide +kernel
theorem dX10_init_171 : decode cX10_init 171 = .ok (.aload_n 0, 1) := by decide +kernel
theorem dX10_init_172 : decode cX10_init 172 = .ok (.iconst 4, 1) := by decide +kernel
theorem dX10_init_173 : decode cX10_init 173 = .ok (.newarray .int, 2) := by decide +kernel
theorem dX10_init_175 : decode cX10_init 175 = .ok (.putfield 75, 3) := by decide +kernel
theorem dX10_init_178 : decode cX10_init 178 = .ok (.aload_n 0, 1) := by decide +kernel
theorem dX10_init_179 : decode cX10_init 179 = .ok (.bipush 96, 2) := by decide +kernel
theorem dX10_init_181 : decode cX10_init 181 = .ok (.newarray .int, 2) := by decide +kernel
theorem dX10_init_183 : decode cX10_init 183 = .ok (.putfield 78, 3) := by decide +kernel
theorem dX10_init_186 : decode cX10_init 186 = .ok (.aload_n 0, 1) := by decide +kernel
theorem dX10_init_187 : decode cX10_init 187 = .ok (.bipush 24, 2) := by decide +kernel
theorem dX10_init_189 : decode cX10_init 189 = .ok (.newarray .int, 2) := by decide +kernel
theorem dX10_init_191 : decode cX10_init 191 = .ok (.putfield 81, 3) := by decide +kernel
theorem dX10_init_194 : decode cX10_init 194 = .ok (.aload_n 0, 1) := by decide +kernel
theorem dX10_init_195 : decode cX10_init 195 = .ok (.bipush 12, 2) := by decide +kernel
theorem dX10_init_197 : decode cX10_init 197 = .ok (.newarray .int, 2) := by decide +kernel
theorem dX10_init_199 : decode cX10_init 199 = .ok (.putfield 84, 3) := by decide +kernel
theorem dX10_init_202 : decode cX10_init 202 = .ok (.aload_n 0, 1) := by decide +kernel
theorem dX10_init_203 : decode cX10_init 203 = .ok (.bipush 12, 2) := by decide +kernel
theorem dX10_init_205 : decode cX10_init 205 = .ok (.newarray .int, 2) := by decide +kernel
theorem dX10_init_207 : decode cX10_init 207 = .ok (.putfield 87, 3) := by decide +kernel
theorem dX10_init_210 : decode cX10_init 210 = .ok (.aload_n 0, 1) := by decide +kernel
theorem dX10_init_211 : decode cX10_init 211 = .ok (.sipush 4096, 3) := by decide +kernel
theorem dX10_init_214 : decode cX10_init 214 = .ok (.newarray .boolean, 2) := by decide +kernel
theorem dX10_init_216 : decode cX10_init 216 = .ok (.putfield 90, 3) := by decide +kernel
theorem dX10_init_219 : decode cX10_init 219 = .ok (.iconst 0, 1) := by decide +kernel
theorem dX10_init_220 : decode cX10_init 220 = .ok (.istore_n 1, 1) := by decide +kernel
theorem dX10_init_221 : decode cX10_init 221 = .ok (.iload_n 1, 1) := by decide +kernel
theorem dX10_init_222 : decode cX10_init 222 = .ok (.iconst 4, 1) := by decide +kernel
theorem dX10_init_223 : decode cX10_init 223 = .ok (.if_icmp .ge 16, 3) := by decide +kernel
theorem dX10_init_226 : decode cX10_init 226 = .ok (.aload_n 0, 1) := by decide +kernel
theorem dX10_init_227 : decode cX10_init 227 = .ok (.getfield 72, 3) := by decide +kernel
theorem dX10_init_230 : decode cX10_init 230 = .ok (.iload_n 1, 1) := by decide +kernel
theorem dX10_init_231 : decode cX10_init 231 = .ok (.iconst (-1), 1) := by decide +kernel
theorem dX10_init_232 : decode cX10_init 232 = .ok (.iastore, 1) := by decide +kernel
theorem dX10_init_233 : decode cX10_init 233 = .ok (.iinc 1 1, 3) := by decide +kernel
theorem dX10_init_236 : decode cX10_init 236 = .ok (.goto (-15), 3) := by decide +kernel
theorem dX10_init_239 : decode cX10_init 239 = .ok (.aload_n 0, 1) := by decide +kernel
theorem dX10_init_240 : decode cX10_init 240 = .ok (.iconst (-1), 1) := by decide +kernel
theorem dX10_init_241 : decode cX10_init 241 = .ok (.putfield 93, 3) := by decide +kernel
theorem dX10_init_244 : decode cX10_init 244 = .ok (.aload_n 0, 1) := by decide +kernel
theorem dX10_init_245 : decode cX10_init 245 = .ok (.bipush (-9), 2) := by decide +kernel
theorem dX10_init_247 : decode cX10_init 247 = .ok (.putfield 97, 3) := by decide +kernel
theorem dX10_init_250 : decode cX10_init 250 = .ok (.return_, 1) := by decide +kernel
theorem dX10_in_0 : decode cX10_in 0 = .ok (.lload_n 0, 1) := by decide +kernel
theorem dX10_in_1 : decode cX10_in 1 = .ok (.lload_n 2, 1) := by decide +kernel
theorem dX10_in_2 : decode cX10_in 2 = .ok (.lcmp, 1) := by decide +kernel
theorem dX10_in_3 : decode cX10_in 3 = .ok (.ifCond .lt 14, 3) := by decide +kernel
theorem dX10_in_6 : decode cX10_in 6 = .ok (.lload_n 0, 1) := by decide +kernel
theorem dX10_in_7 : decode cX10_in 7 = .ok (.lload 4, 2) := by decide +kernel
theorem dX10_in_9 : decode cX10_in 9 = .ok (.lcmp, 1) := by decide +kernel
theorem dX10_in_10 : decode cX10_in 10 = .ok (.ifCond .gt 7, 3) := by decide +kernel
theorem dX10_in_13 : decode cX10_in 13 = .ok (.iconst 1, 1) := by decide +kernel
theorem dX10_in_14 : decode cX10_in 14 = .ok (.goto 4, 3) := by decide +kernel
theorem dX10_in_17 : decode cX10_in 17 = .ok (.iconst 0, 1) := by decide +kernel
theorem dX10_in_18 : decode cX10_in 18 = .ok (.ireturn, 1) := by decide +kernel
theorem dX10_lost_0 : decode cX10_lost 0 = .ok (.ldc2_w 100, 3) := by decide +kernel
theorem dX10_lost_3 : decode cX10_lost 3 = .ok (.lreturn, 1) := by decide +kernel
theorem dX10_refused_0 : decode cX10_refused 0 = .ok (.aload_n 0, 1) := by decide +kernel
theorem dX10_refused_1 : decode cX10_refused 1 = .ok (.iconst 0, 1) := by decide +kernel
theorem dX10_refused_2 : decode cX10_refused 2 = .ok (.putfield 102, 3) := by decide +kernel
theorem dX10_refused_5 : decode cX10_refused 5 = .ok (.iload_n 1, 1) := by decide +kernel
theorem dX10_refused_6 : decode cX10_refused 6 = .ok (.ireturn, 1) := by decide +kernel
theorem dX10_failed_0 : decode cX10_failed 0 = .ok (.aload_n 0, 1) := by decide +kernel
theorem dX10_failed_1 : decode cX10_failed 1 = .ok (.iload_n 1, 1) := by decide +kernel
theorem dX10_failed_2 : decode cX10_failed 2 = .ok (.putfield 102, 3) := by decide +kernel
theorem dX10_failed_5 : decode cX10_failed 5 = .ok (.bipush (-10), 2) := by decide +kernel
theorem dX10_failed_7 : decode cX10_failed 7 = .ok (.iload_n 1, 1) := by decide +kernel
theorem dX10_failed_8 : decode cX10_failed 8 = .ok (.isub, 1) := by decide +kernel
theorem dX10_failed_9 : decode cX10_failed 9 = .ok (.ireturn, 1) := by decide +kernel
theorem dX10_failedLong_0 : decode cX10_failedLong 0 = .ok (.aload_n 0, 1) := by decide +kernel
theorem dX10_failedLong_1 : decode cX10_failedLong 1 = .ok (.iload_n 1, 1) := by decide +kernel
theorem dX10_failedLong_2 : decode cX10_failedLong 2 = .ok (.putfield 102, 3) := by decide +kernel
theorem dX10_failedLong_5 : decode cX10_failedLong 5 = .ok (.invokestatic 105, 3) := by decide +kernel
theorem dX10_failedLong_8 : decode cX10_failedLong 8 = .ok (.lreturn, 1) := by decide +kernel
theorem dX10_common_0 : decode cX10_common 0 = .ok (.lload_n 0, 1) := by decide +kernel
theorem dX10_common_1 : decode cX10_common 1 = .ok (.lstore 4, 2) := by decide +kernel
theorem dX10_common_3 : decode cX10_common 3 = .ok (.lload_n 2, 1) := by decide +kernel
theorem dX10_common_4 : decode cX10_common 4 = .ok (.lstore 6, 2) := by decide +kernel
theorem dX10_common_6 : decode cX10_common 6 = .ok (.lload 6, 2) := by decide +kernel
theorem dX10_common_8 : decode cX10_common 8 = .ok (.lconst 0, 1) := by decide +kernel
theorem dX10_common_9 : decode cX10_common 9 = .ok (.lcmp, 1) := by decide +kernel
theorem dX10_common_10 : decode cX10_common 10 = .ok (.ifCond .eq 21, 3) := by decide +kernel
theorem dX10_common_13 : decode cX10_common 13 = .ok (.lload 4, 2) := by decide +kernel
theorem dX10_common_15 : decode cX10_common 15 = .ok (.lload 6, 2) := by decide +kernel
theorem dX10_common_17 : decode cX10_common 17 = .ok (.lrem, 1) := by decide +kernel
theorem dX10_common_18 : decode cX10_common 18 = .ok (.lstore 8, 2) := by decide +kernel
theorem dX10_common_20 : decode cX10_common 20 = .ok (.lload 6, 2) := by decide +kernel
theorem dX10_common_22 : decode cX10_common 22 = .ok (.lstore 4, 2) := by decide +kernel
theorem dX10_common_24 : decode cX10_common 24 = .ok (.lload 8, 2) := by decide +kernel
theorem dX10_common_26 : decode cX10_common 26 = .ok (.lstore 6, 2) := by decide +kernel
theorem dX10_common_28 : decode cX10_common 28 = .ok (.goto (-22), 3) := by decide +kernel
theorem dX10_common_31 : decode cX10_common 31 = .ok (.lload 4, 2) := by decide +kernel
theorem dX10_common_33 : decode cX10_common 33 = .ok (.lreturn, 1) := by decide +kernel
theorem dX10_noNode_0 : decode cX10_noNode 0 = .ok (.iload_n 1, 1) := by decide +kernel
theorem dX10_noNode_1 : decode cX10_noNode 1 = .ok (.i2l, 1) := by decide +kernel
theorem dX10_noNode_2 : decode cX10_noNode 2 = .ok (.lconst 0, 1) := by decide +kernel
theorem dX10_noNode_3 : decode cX10_noNode 3 = .ok (.aload_n 0, 1) := by decide +kernel
theorem dX10_noNode_4 : decode cX10_noNode 4 = .ok (.getfield 109, 3) := by decide +kernel
theorem dX10_noNode_7 : decode cX10_noNode 7 = .ok (.i2l, 1) := by decide +kernel
theorem dX10_noNode_8 : decode cX10_noNode 8 = .ok (.lconst 1, 1) := by decide +kernel
theorem dX10_noNode_9 : decode cX10_noNode 9 = .ok (.lsub, 1) := by decide +kernel
theorem dX10_noNode_10 : decode cX10_noNode 10 = .ok (.invokestatic 112, 3) := by decide +kernel
theorem dX10_noNode_13 : decode cX10_noNode 13 = .ok (.ifCond .ne 7, 3) := by decide +kernel
theorem dX10_noNode_16 : decode cX10_noNode 16 = .ok (.iconst 1, 1) := by decide +kernel
theorem dX10_noNode_17 : decode cX10_noNode 17 = .ok (.goto 4, 3) := by decide +kernel
theorem dX10_noNode_20 : decode cX10_noNode 20 = .ok (.iconst 0, 1) := by decide +kernel
theorem dX10_noNode_21 : decode cX10_noNode 21 = .ok (.ireturn, 1) := by decide +kernel
theorem dX10_addNode_0 : decode cX10_addNode 0 = .ok (.aload_n 0, 1) := by decide +kernel
theorem dX10_addNode_1 : decode cX10_addNode 1 = .ok (.getfield 7, 3) := by decide +kernel
theorem dX10_addNode_4 : decode cX10_addNode 4 = .ok (.aload_n 0, 1) := by decide +kernel
theorem dX10_addNode_5 : decode cX10_addNode 5 = .ok (.getfield 109, 3) := by decide +kernel
theorem dX10_addNode_8 : decode cX10_addNode 8 = .ok (.iload_n 1, 1) := by decide +kernel
theorem dX10_addNode_9 : decode cX10_addNode 9 = .ok (.iastore, 1) := by decide +kernel
theorem dX10_addNode_10 : decode cX10_addNode 10 = .ok (.aload_n 0, 1) := by decide +kernel
theorem dX10_addNode_11 : decode cX10_addNode 11 = .ok (.getfield 13, 3) := by decide +kernel
theorem dX10_addNode_14 : decode cX10_addNode 14 = .ok (.aload_n 0, 1) := by decide +kernel
theorem dX10_addNode_15 : decode cX10_addNode 15 = .ok (.getfield 109, 3) := by decide +kernel
theorem dX10_addNode_18 : decode cX10_addNode 18 = .ok (.iload_n 2, 1) := by decide +kernel
theorem dX10_addNode_19 : decode cX10_addNode 19 = .ok (.iastore, 1) := by decide +kernel
theorem dX10_addNode_20 : decode cX10_addNode 20 = .ok (.aload_n 0, 1) := by decide +kernel
theorem dX10_addNode_21 : decode cX10_addNode 21 = .ok (.getfield 16, 3) := by decide +kernel
theorem dX10_addNode_24 : decode cX10_addNode 24 = .ok (.aload_n 0, 1) := by decide +kernel
theorem dX10_addNode_25 : decode cX10_addNode 25 = .ok (.getfield 109, 3) := by decide +kernel
theorem dX10_addNode_28 : decode cX10_addNode 28 = .ok (.iload_n 3, 1) := by decide +kernel
theorem dX10_addNode_29 : decode cX10_addNode 29 = .ok (.iastore, 1) := by decide +kernel
theorem dX10_addNode_30 : decode cX10_addNode 30 = .ok (.aload_n 0, 1) := by decide +kernel
theorem dX10_addNode_31 : decode cX10_addNode 31 = .ok (.getfield 19, 3) := by decide +kernel
theorem dX10_addNode_34 : decode cX10_addNode 34 = .ok (.aload_n 0, 1) := by decide +kernel
theorem dX10_addNode_35 : decode cX10_addNode 35 = .ok (.getfield 109, 3) := by decide +kernel
theorem dX10_addNode_38 : decode cX10_addNode 38 = .ok (.iload 4, 2) := by decide +kernel
theorem dX10_addNode_40 : decode cX10_addNode 40 = .ok (.iastore, 1) := by decide +kernel
theorem dX10_addNode_41 : decode cX10_addNode 41 = .ok (.aload_n 0, 1) := by decide +kernel
theorem dX10_addNode_42 : decode cX10_addNode 42 = .ok (.getfield 22, 3) := by decide +kernel
theorem dX10_addNode_45 : decode cX10_addNode 45 = .ok (.aload_n 0, 1) := by decide +kernel
theorem dX10_addNode_46 : decode cX10_addNode 46 = .ok (.getfield 109, 3) := by decide +kernel
theorem dX10_addNode_49 : decode cX10_addNode 49 = .ok (.iload 5, 2) := by decide +kernel
theorem dX10_addNode_51 : decode cX10_addNode 51 = .ok (.iastore, 1) := by decide +kernel
theorem dX10_addNode_52 : decode cX10_addNode 52 = .ok (.aload_n 0, 1) := by decide +kernel
theorem dX10_addNode_53 : decode cX10_addNode 53 = .ok (.getfield 25, 3) := by decide +kernel
theorem dX10_addNode_56 : decode cX10_addNode 56 = .ok (.aload_n 0, 1) := by decide +kernel
theorem dX10_addNode_57 : decode cX10_addNode 57 = .ok (.getfield 109, 3) := by decide +kernel
theorem dX10_addNode_60 : decode cX10_addNode 60 = .ok (.iload 4, 2) := by decide +kernel
theorem dX10_addNode_62 : decode cX10_addNode 62 = .ok (.iastore, 1) := by decide +kernel
theorem dX10_addNode_63 : decode cX10_addNode 63 = .ok (.aload_n 0, 1) := by decide +kernel
theorem dX10_addNode_64 : decode cX10_addNode 64 = .ok (.getfield 28, 3) := by decide +kernel
theorem dX10_addNode_67 : decode cX10_addNode 67 = .ok (.aload_n 0, 1) := by decide +kernel
theorem dX10_addNode_68 : decode cX10_addNode 68 = .ok (.getfield 109, 3) := by decide +kernel
theorem dX10_addNode_71 : decode cX10_addNode 71 = .ok (.iconst 0, 1) := by decide +kernel
theorem dX10_addNode_72 : decode cX10_addNode 72 = .ok (.bastore, 1) := by decide +kernel
theorem dX10_addNode_73 : decode cX10_addNode 73 = .ok (.aload_n 0, 1) := by decide +kernel
theorem dX10_addNode_74 : decode cX10_addNode 74 = .ok (.getfield 32, 3) := by decide +kernel
theorem dX10_addNode_77 : decode cX10_addNode 77 = .ok (.aload_n 0, 1) := by decide +kernel
theorem dX10_addNode_78 : decode cX10_addNode 78 = .ok (.getfield 109, 3) := by decide +kernel
theorem dX10_addNode_81 : decode cX10_addNode 81 = .ok (.lconst 0, 1) := by decide +kernel
theorem dX10_addNode_82 : decode cX10_addNode 82 = .ok (.lastore, 1) := by decide +kernel
theorem dX10_addNode_83 : decode cX10_addNode 83 = .ok (.aload_n 0, 1) := by decide +kernel
theorem dX10_addNode_84 : decode cX10_addNode 84 = .ok (.getfield 36, 3) := by decide +kernel
theorem dX10_addNode_87 : decode cX10_addNode 87 = .ok (.aload_n 0, 1) := by decide +kernel
theorem dX10_addNode_88 : decode cX10_addNode 88 = .ok (.getfield 109, 3) := by decide +kernel
theorem dX10_addNode_91 : decode cX10_addNode 91 = .ok (.ldc2_w 116, 3) := by decide +kernel
theorem dX10_addNode_94 : decode cX10_addNode 94 = .ok (.lastore, 1) := by decide +kernel
theorem dX10_addNode_95 : decode cX10_addNode 95 = .ok (.aload_n 0, 1) := by decide +kernel
theorem dX10_addNode_96 : decode cX10_addNode 96 = .ok (.dup, 1) := by decide +kernel
theorem dX10_addNode_97 : decode cX10_addNode 97 = .ok (.getfield 109, 3) := by decide +kernel
theorem dX10_addNode_100 : decode cX10_addNode 100 = .ok (.iconst 1, 1) := by decide +kernel
theorem dX10_addNode_101 : decode cX10_addNode 101 = .ok (.iadd, 1) := by decide +kernel
theorem dX10_addNode_102 : decode cX10_addNode 102 = .ok (.putfield 109, 3) := by decide +kernel
theorem dX10_addNode_105 : decode cX10_addNode 105 = .ok (.aload_n 0, 1) := by decide +kernel
theorem dX10_addNode_106 : decode cX10_addNode 106 = .ok (.bipush (-9), 2) := by decide +kernel
theorem dX10_addNode_108 : decode cX10_addNode 108 = .ok (.putfield 97, 3) := by decide +kernel
theorem dX10_addNode_111 : decode cX10_addNode 111 = .ok (.aload_n 0, 1) := by decide +kernel
theorem dX10_addNode_112 : decode cX10_addNode 112 = .ok (.getfield 109, 3) := by decide +kernel
theorem dX10_addNode_115 : decode cX10_addNode 115 = .ok (.iconst 1, 1) := by decide +kernel
theorem dX10_addNode_116 : decode cX10_addNode 116 = .ok (.isub, 1) := by decide +kernel
theorem dX10_addNode_117 : decode cX10_addNode 117 = .ok (.ireturn, 1) := by decide +kernel
theorem dX10_source_0 : decode cX10_source 0 = .ok (.iload_n 1, 1) := by decide +kernel
theorem dX10_source_1 : decode cX10_source 1 = .ok (.i2l, 1) := by decide +kernel
theorem dX10_source_2 : decode cX10_source 2 = .ok (.lconst 1, 1) := by decide +kernel
theorem dX10_source_3 : decode cX10_source 3 = .ok (.ldc2_w 118, 3) := by decide +kernel
theorem dX10_source_6 : decode cX10_source 6 = .ok (.invokestatic 112, 3) := by decide +kernel
theorem dX10_source_9 : decode cX10_source 9 = .ok (.ifCond .ne 6, 3) := by decide +kernel
theorem dX10_source_12 : decode cX10_source 12 = .ok (.bipush (-2), 2) := by decide +kernel
theorem dX10_source_14 : decode cX10_source 14 = .ok (.ireturn, 1) := by decide +kernel
theorem dX10_source_15 : decode cX10_source 15 = .ok (.aload_n 0, 1) := by decide +kernel
theorem dX10_source_16 : decode cX10_source 16 = .ok (.getfield 109, 3) := by decide +kernel
theorem dX10_source_19 : decode cX10_source 19 = .ok (.bipush 16, 2) := by decide +kernel
theorem dX10_source_21 : decode cX10_source 21 = .ok (.if_icmp .ne 8, 3) := by decide +kernel
theorem dX10_source_24 : decode cX10_source 24 = .ok (.bipush (-4), 2) := by decide +kernel
theorem dX10_source_26 : decode cX10_source 26 = .ok (.goto 13, 3) := by decide +kernel
theorem dX10_source_29 : decode cX10_source 29 = .ok (.aload_n 0, 1) := by decide +kernel
theorem dX10_source_30 : decode cX10_source 30 = .ok (.iconst 0, 1) := by decide +kernel
theorem dX10_source_31 : decode cX10_source 31 = .ok (.iload_n 1, 1) := by decide +kernel
theorem dX10_source_32 : decode cX10_source 32 = .ok (.bipush (-9), 2) := by decide +kernel
theorem dX10_source_34 : decode cX10_source 34 = .ok (.iconst 0, 1) := by decide +kernel
theorem dX10_source_35 : decode cX10_source 35 = .ok (.iconst 0, 1) := by decide +kernel
theorem dX10_source_36 : decode cX10_source 36 = .ok (.invokevirtual 120, 3) := by decide +kernel
theorem dX10_source_39 : decode cX10_source 39 = .ok (.ireturn, 1) := by decide +kernel
theorem dX10_stage_0 : decode cX10_stage 0 = .ok (.aload_n 0, 1) := by decide +kernel
theorem dX10_stage_1 : decode cX10_stage 1 = .ok (.iload_n 2, 1) := by decide +kernel
theorem dX10_stage_2 : decode cX10_stage 2 = .ok (.invokevirtual 124, 3) := by decide +kernel
theorem dX10_stage_5 : decode cX10_stage 5 = .ok (.ifCond .eq 5, 3) := by decide +kernel
theorem dX10_stage_8 : decode cX10_stage 8 = .ok (.iconst (-1), 1) := by decide +kernel
theorem dX10_stage_9 : decode cX10_stage 9 = .ok (.ireturn, 1) := by decide +kernel
theorem dX10_stage_10 : decode cX10_stage 10 = .ok (.iload_n 1, 1) := by decide +kernel
theorem dX10_stage_11 : decode cX10_stage 11 = .ok (.i2l, 1) := by decide +kernel
theorem dX10_stage_12 : decode cX10_stage 12 = .ok (.lconst 1, 1) := by decide +kernel
theorem dX10_stage_13 : decode cX10_stage 13 = .ok (.ldc2_w 128, 3) := by decide +kernel
theorem dX10_stage_16 : decode cX10_stage 16 = .ok (.invokestatic 112, 3) := by decide +kernel
theorem dX10_stage_19 : decode cX10_stage 19 = .ok (.ifCond .eq 29, 3) := by decide +kernel
theorem dX10_stage_22 : decode cX10_stage 22 = .ok (.iload_n 3, 1) := by decide +kernel
theorem dX10_stage_23 : decode cX10_stage 23 = .ok (.i2l, 1) := by decide +kernel
theorem dX10_stage_24 : decode cX10_stage 24 = .ok (.lconst 1, 1) := by decide +kernel
theorem dX10_stage_25 : decode cX10_stage 25 = .ok (.ldc2_w 130, 3) := by decide +kernel
theorem dX10_stage_28 : decode cX10_stage 28 = .ok (.invokestatic 112, 3) := by decide +kernel
theorem dX10_stage_31 : decode cX10_stage 31 = .ok (.ifCond .eq 17, 3) := by decide +kernel
theorem dX10_stage_34 : decode cX10_stage 34 = .ok (.iload 4, 2) := by decide +kernel
theorem dX10_stage_36 : decode cX10_stage 36 = .ok (.i2l, 1) := by decide +kernel
theorem dX10_stage_37 : decode cX10_stage 37 = .ok (.iload_n 3, 1) := by decide +kernel
theorem dX10_stage_38 : decode cX10_stage 38 = .ok (.i2l, 1) := by decide +kernel
theorem dX10_stage_39 : decode cX10_stage 39 = .ok (.ldc2_w 130, 3) := by decide +kernel
theorem dX10_stage_42 : decode cX10_stage 42 = .ok (.invokestatic 112, 3) := by decide +kernel
theorem dX10_stage_45 : decode cX10_stage 45 = .ok (.ifCond .ne 6, 3) := by decide +kernel
theorem dX10_stage_48 : decode cX10_stage 48 = .ok (.bipush (-2), 2) := by decide +kernel
theorem dX10_stage_50 : decode cX10_stage 50 = .ok (.ireturn, 1) := by decide +kernel
theorem dX10_stage_51 : decode cX10_stage 51 = .ok (.aload_n 0, 1) := by decide +kernel
theorem dX10_stage_52 : decode cX10_stage 52 = .ok (.getfield 109, 3) := by decide +kernel
theorem dX10_stage_55 : decode cX10_stage 55 = .ok (.bipush 16, 2) := by decide +kernel
theorem dX10_stage_57 : decode cX10_stage 57 = .ok (.if_icmp .ne 8, 3) := by decide +kernel
theorem dX10_stage_60 : decode cX10_stage 60 = .ok (.bipush (-4), 2) := by decide +kernel
theorem dX10_stage_62 : decode cX10_stage 62 = .ok (.goto 14, 3) := by decide +kernel
theorem dX10_stage_65 : decode cX10_stage 65 = .ok (.aload_n 0, 1) := by decide +kernel
theorem dX10_stage_66 : decode cX10_stage 66 = .ok (.iload_n 1, 1) := by decide +kernel
theorem dX10_stage_67 : decode cX10_stage 67 = .ok (.iload_n 2, 1) := by decide +kernel
theorem dX10_stage_68 : decode cX10_stage 68 = .ok (.bipush (-9), 2) := by decide +kernel
theorem dX10_stage_70 : decode cX10_stage 70 = .ok (.iload_n 3, 1) := by decide +kernel
theorem dX10_stage_71 : decode cX10_stage 71 = .ok (.iload 4, 2) := by decide +kernel
theorem dX10_stage_73 : decode cX10_stage 73 = .ok (.invokevirtual 120, 3) := by decide +kernel
theorem dX10_stage_76 : decode cX10_stage 76 = .ok (.ireturn, 1) := by decide +kernel
theorem dX10_choice_0 : decode cX10_choice 0 = .ok (.aload_n 0, 1) := by decide +kernel
theorem dX10_choice_1 : decode cX10_choice 1 = .ok (.iload_n 1, 1) := by decide +kernel
theorem dX10_choice_2 : decode cX10_choice 2 = .ok (.invokevirtual 124, 3) := by decide +kernel
theorem dX10_choice_5 : decode cX10_choice 5 = .ok (.ifCond .ne 11, 3) := by decide +kernel
theorem dX10_choice_8 : decode cX10_choice 8 = .ok (.aload_n 0, 1) := by decide +kernel
theorem dX10_choice_9 : decode cX10_choice 9 = .ok (.iload_n 2, 1) := by decide +kernel
theorem dX10_choice_10 : decode cX10_choice 10 = .ok (.invokevirtual 124, 3) := by decide +kernel
theorem dX10_choice_13 : decode cX10_choice 13 = .ok (.ifCond .eq 5, 3) := by decide +kernel
theorem dX10_choice_16 : decode cX10_choice 16 = .ok (.iconst (-1), 1) := by decide +kernel
theorem dX10_choice_17 : decode cX10_choice 17 = .ok (.ireturn, 1) := by decide +kernel
theorem dX10_choice_18 : decode cX10_choice 18 = .ok (.aload_n 0, 1) := by decide +kernel
theorem dX10_choice_19 : decode cX10_choice 19 = .ok (.getfield 109, 3) := by decide +kernel
theorem dX10_choice_22 : decode cX10_choice 22 = .ok (.bipush 16, 2) := by decide +kernel
theorem dX10_choice_24 : decode cX10_choice 24 = .ok (.if_icmp .ne 8, 3) := by decide +kernel
theorem dX10_choice_27 : decode cX10_choice 27 = .ok (.bipush (-4), 2) := by decide +kernel
theorem dX10_choice_29 : decode cX10_choice 29 = .ok (.goto 12, 3) := by decide +kernel
theorem dX10_choice_32 : decode cX10_choice 32 = .ok (.aload_n 0, 1) := by decide +kernel
theorem dX10_choice_33 : decode cX10_choice 33 = .ok (.iconst 3, 1) := by decide +kernel
theorem dX10_choice_34 : decode cX10_choice 34 = .ok (.iload_n 1, 1) := by decide +kernel
theorem dX10_choice_35 : decode cX10_choice 35 = .ok (.iload_n 2, 1) := by decide +kernel
theorem dX10_choice_36 : decode cX10_choice 36 = .ok (.iconst 0, 1) := by decide +kernel
theorem dX10_choice_37 : decode cX10_choice 37 = .ok (.iconst 1, 1) := by decide +kernel
theorem dX10_choice_38 : decode cX10_choice 38 = .ok (.invokevirtual 120, 3) := by decide +kernel
theorem dX10_choice_41 : decode cX10_choice 41 = .ok (.ireturn, 1) := by decide +kernel
theorem dX10_gate_0 : decode cX10_gate 0 = .ok (.aload_n 0, 1) := by decide +kernel
theorem dX10_gate_1 : decode cX10_gate 1 = .ok (.iload_n 1, 1) := by decide +kernel
theorem dX10_gate_2 : decode cX10_gate 2 = .ok (.invokevirtual 124, 3) := by decide +kernel
theorem dX10_gate_5 : decode cX10_gate 5 = .ok (.ifCond .eq 5, 3) := by decide +kernel
theorem dX10_gate_8 : decode cX10_gate 8 = .ok (.iconst (-1), 1) := by decide +kernel
theorem dX10_gate_9 : decode cX10_gate 9 = .ok (.ireturn, 1) := by decide +kernel
theorem dX10_gate_10 : decode cX10_gate 10 = .ok (.aload_n 0, 1) := by decide +kernel
theorem dX10_gate_11 : decode cX10_gate 11 = .ok (.getfield 109, 3) := by decide +kernel
theorem dX10_gate_14 : decode cX10_gate 14 = .ok (.bipush 16, 2) := by decide +kernel
theorem dX10_gate_16 : decode cX10_gate 16 = .ok (.if_icmp .ne 8, 3) := by decide +kernel
theorem dX10_gate_19 : decode cX10_gate 19 = .ok (.bipush (-4), 2) := by decide +kernel
theorem dX10_gate_21 : decode cX10_gate 21 = .ok (.goto 13, 3) := by decide +kernel
theorem dX10_gate_24 : decode cX10_gate 24 = .ok (.aload_n 0, 1) := by decide +kernel
theorem dX10_gate_25 : decode cX10_gate 25 = .ok (.iconst 4, 1) := by decide +kernel
theorem dX10_gate_26 : decode cX10_gate 26 = .ok (.iload_n 1, 1) := by decide +kernel
theorem dX10_gate_27 : decode cX10_gate 27 = .ok (.bipush (-9), 2) := by decide +kernel
theorem dX10_gate_29 : decode cX10_gate 29 = .ok (.iconst 0, 1) := by decide +kernel
theorem dX10_gate_30 : decode cX10_gate 30 = .ok (.iconst 1, 1) := by decide +kernel
theorem dX10_gate_31 : decode cX10_gate 31 = .ok (.invokevirtual 120, 3) := by decide +kernel
theorem dX10_gate_34 : decode cX10_gate 34 = .ok (.ireturn, 1) := by decide +kernel
theorem dX10_limits_0 : decode cX10_limits 0 = .ok (.aload_n 0, 1) := by decide +kernel
theorem dX10_limits_1 : decode cX10_limits 1 = .ok (.iload_n 1, 1) := by decide +kernel
theorem dX10_limits_2 : decode cX10_limits 2 = .ok (.invokevirtual 124, 3) := by decide +kernel
theorem dX10_limits_5 : decode cX10_limits 5 = .ok (.ifCond .eq 5, 3) := by decide +kernel
theorem dX10_limits_8 : decode cX10_limits 8 = .ok (.iconst (-1), 1) := by decide +kernel
theorem dX10_limits_9 : decode cX10_limits 9 = .ok (.ireturn, 1) := by decide +kernel
theorem dX10_limits_10 : decode cX10_limits 10 = .ok (.iload_n 2, 1) := by decide +kernel
theorem dX10_limits_11 : decode cX10_limits 11 = .ok (.i2l, 1) := by decide +kernel
theorem dX10_limits_12 : decode cX10_limits 12 = .ok (.lconst 0, 1) := by decide +kernel
theorem dX10_limits_13 : decode cX10_limits 13 = .ok (.ldc2_w 116, 3) := by decide +kernel
theorem dX10_limits_16 : decode cX10_limits 16 = .ok (.invokestatic 112, 3) := by decide +kernel
theorem dX10_limits_19 : decode cX10_limits 19 = .ok (.ifCond .eq 16, 3) := by decide +kernel
theorem dX10_limits_22 : decode cX10_limits 22 = .ok (.iload_n 3, 1) := by decide +kernel
theorem dX10_limits_23 : decode cX10_limits 23 = .ok (.i2l, 1) := by decide +kernel
theorem dX10_limits_24 : decode cX10_limits 24 = .ok (.iload_n 2, 1) := by decide +kernel
theorem dX10_limits_25 : decode cX10_limits 25 = .ok (.i2l, 1) := by decide +kernel
theorem dX10_limits_26 : decode cX10_limits 26 = .ok (.ldc2_w 116, 3) := by decide +kernel
theorem dX10_limits_29 : decode cX10_limits 29 = .ok (.invokestatic 112, 3) := by decide +kernel
theorem dX10_limits_32 : decode cX10_limits 32 = .ok (.ifCond .ne 6, 3) := by decide +kernel
theorem dX10_limits_35 : decode cX10_limits 35 = .ok (.bipush (-2), 2) := by decide +kernel
theorem dX10_limits_37 : decode cX10_limits 37 = .ok (.ireturn, 1) := by decide +kernel
theorem dX10_limits_38 : decode cX10_limits 38 = .ok (.aload_n 0, 1) := by decide +kernel
theorem dX10_limits_39 : decode cX10_limits 39 = .ok (.getfield 32, 3) := by decide +kernel
theorem dX10_limits_42 : decode cX10_limits 42 = .ok (.iload_n 1, 1) := by decide +kernel
theorem dX10_limits_43 : decode cX10_limits 43 = .ok (.iload_n 2, 1) := by decide +kernel
theorem dX10_limits_44 : decode cX10_limits 44 = .ok (.i2l, 1) := by decide +kernel
theorem dX10_limits_45 : decode cX10_limits 45 = .ok (.lastore, 1) := by decide +kernel
theorem dX10_limits_46 : decode cX10_limits 46 = .ok (.aload_n 0, 1) := by decide +kernel
theorem dX10_limits_47 : decode cX10_limits 47 = .ok (.getfield 36, 3) := by decide +kernel
theorem dX10_limits_50 : decode cX10_limits 50 = .ok (.iload_n 1, 1) := by decide +kernel
theorem dX10_limits_51 : decode cX10_limits 51 = .ok (.iload_n 3, 1) := by decide +kernel
theorem dX10_limits_52 : decode cX10_limits 52 = .ok (.i2l, 1) := by decide +kernel
theorem dX10_limits_53 : decode cX10_limits 53 = .ok (.lastore, 1) := by decide +kernel
theorem dX10_limits_54 : decode cX10_limits 54 = .ok (.aload_n 0, 1) := by decide +kernel
theorem dX10_limits_55 : decode cX10_limits 55 = .ok (.bipush (-9), 2) := by decide +kernel
theorem dX10_limits_57 : decode cX10_limits 57 = .ok (.putfield 97, 3) := by decide +kernel
theorem dX10_limits_60 : decode cX10_limits 60 = .ok (.iconst 1, 1) := by decide +kernel
theorem dX10_limits_61 : decode cX10_limits 61 = .ok (.ireturn, 1) := by decide +kernel
theorem dX10_set_0 : decode cX10_set 0 = .ok (.aload_n 0, 1) := by decide +kernel
