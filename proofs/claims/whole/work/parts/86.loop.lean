/-! the law's loop -/
theorem hc6 {y a : Nat} (hy : y ≤ 3072) (ha : a ≤ 4000) : (nI y - nI 6 < nI a) = (y < a + 6) := by
  rw [Int32.lt_iff_toInt_lt, Int32.toInt_sub, nI_toInt (by omega), nI_toInt (by omega), nI_toInt (by omega), Int.bmod_eq_of_le (by omega) (by omega)]
  apply propext
  omega
section
variable {J : Nat → Int32} {z : Nat}
set_option maxHeartbeats 8000000 in
theorem law_loop (hz2 : z ≤ 3072) : ∀ (n i : Nat) (σ : Sg), z + 12 ≤ i + n → i ≤ 3100 → InvS J z σ → wp 100 mL_law 18 [.ref 1000, .ref 0, .ref 68, .int (nI i)] [] σ (fun v _ => v = .int 1) := by
  intro n
  induction n with
  | zero =>
    intro i σ hn hi hS
    obtain ⟨I, L, rfl, ⟨N, T, W, V, P, C, A⟩, hJ, hz⟩ := hS
    have g := hc6 hz2 (a := i) (by omega)
    have g1 : z < i + 6 := by omega
    have e1 : nI 1 = 1 := by decide +kernel
    simp (disch := first | decide | assumption | omega | exact cat_int | exact cat_ref | exact cat_null | exact Or.inl rfl | exact Or.inr rfl | (refine so_node ?_; omega) | (refine inA_n ?_ ?_ <;> (try simp only [la_2, la_3, la_21, la_22, la_24, la_38, la_40, la_41, la_42, la_43, la_44, la_45, la_46, la_47, la_48, la_50, la_52, la_54, la_55, la_56, la_57, la_58, la_59, la_61, la_63, la_65, la_67, la_69, la_70, la_71, la_72, la_73, la_74, la_75, la_76, la_77, la_78, la_79, la_80, la_81, la_82, la_83, la_84, la_85, la_86, la_87, la_88, la_89, la_90, la_91, la_92, la_93, la_94, la_95]) <;> omega) | (simp (disch := omega) only [u_same1, u_oj, u_ok]; assumption) | (refine so_wish ?_; omega) | (refine so_sheet ?_; omega) | (refine ta_cells ?_; omega) | (refine inA_c ?_ ?_ <;> omega) | (rw [ta_cells] <;> omega)) only [sL_law_18, sL_law_19, sL_law_20, sL_law_21, sL_law_23, sL_law_24, sL_law_1231, sL_law_1232, hz, n_cl, g, g1, rf_0_0, rf_0_1, rf_0_2, rf_0_3, rf_0_4, rf_0_5, rf_0_6, rf_1_0, rf_1_1, rfa_2, rf_20_0, rf_20_1, rf_23_0, rfa_24, rf_37_1, rf_37_3, rf_37_4, rf_37_5, rf_37_6, rf_37_7, rf_37_8, rf_37_9, rf_37_10, rf_39_0, rf_39_1, rf_49_0, rf_51_0, rf_51_2, rf_51_3, rf_51_4, rf_51_6, rf_53_0, rf_53_1, rfa_59, rf_60_0, rf_62_0, rf_64_0, rf_66_0, rf_68_2, rf_68_3, rf_68_4, rf_68_5, rf_68_6, rf_68_7, rf_68_8, rf_68_9, rf_68_10, rf_68_11, rf_68_12, rf_68_13, rf_68_15, rf_68_16, rf_68_17, rf_68_18, rf_68_19, rf_68_20, rf_68_23, rf_68_27, rf_68_28, rf_68_29, rf_68_30, rf_68_31, rf_68_33, rf_68_35, rf_68_36, la_2, la_3, la_21, la_22, la_24, la_38, la_40, la_41, la_42, la_43, la_44, la_45, la_46, la_47, la_48, la_50, la_52, la_54, la_55, la_56, la_57, la_58, la_59, la_61, la_63, la_65, la_67, la_69, la_70, la_71, la_72, la_73, la_74, la_75, la_76, la_77, la_78, la_79, la_80, la_81, la_82, la_83, la_84, la_85, la_86, la_87, la_88, la_89, la_90, la_91, la_92, la_93, la_94, la_95, rf_sheet, la_cells, u_same1, u_oj, u_ok, v_same1, v_oj, v_ok, n_lt, n_le, n_eq, n_lt0, n_ge0, n_gt0, n_le0, n_eq0, n_cl, nI_add, n_sub, n_l, lt_m1, lt_m2, lt_m3, lt_m4, lt_m9, c_ge, c_le, c_gt, c_lt, c_eq, w_ge, w_lt, w_gt, not_true_eq_false, not_false_eq_true, ↓reduceIte, Nat.reduceAdd, Nat.reduceSub, Nat.reduceEqDiff, Nat.reduceLT, Nat.reduceLeDiff, Nat.add_sub_cancel, true_and, and_true]
    rw [e1]
  | succ n ih =>
    intro i σ hn hi hS
    have hS0 := hS
    obtain ⟨I, L, rfl, ⟨N, T, W, V, P, C, A⟩, hJ, hz⟩ := hS
    have g := hc6 hz2 (a := i) (by omega)
    by_cases g1 : z < i + 6
    · have e1 : nI 1 = 1 := by decide +kernel
      simp (disch := first | decide | assumption | omega | exact cat_int | exact cat_ref | exact cat_null | exact Or.inl rfl | exact Or.inr rfl | (refine so_node ?_; omega) | (refine inA_n ?_ ?_ <;> (try simp only [la_2, la_3, la_21, la_22, la_24, la_38, la_40, la_41, la_42, la_43, la_44, la_45, la_46, la_47, la_48, la_50, la_52, la_54, la_55, la_56, la_57, la_58, la_59, la_61, la_63, la_65, la_67, la_69, la_70, la_71, la_72, la_73, la_74, la_75, la_76, la_77, la_78, la_79, la_80, la_81, la_82, la_83, la_84, la_85, la_86, la_87, la_88, la_89, la_90, la_91, la_92, la_93, la_94, la_95]) <;> omega) | (simp (disch := omega) only [u_same1, u_oj, u_ok]; assumption) | (refine so_wish ?_; omega) | (refine so_sheet ?_; omega) | (refine ta_cells ?_; omega) | (refine inA_c ?_ ?_ <;> omega) | (rw [ta_cells] <;> omega)) only [sL_law_18, sL_law_19, sL_law_20, sL_law_21, sL_law_23, sL_law_24, sL_law_1231, sL_law_1232, hz, n_cl, g, g1, rf_0_0, rf_0_1, rf_0_2, rf_0_3, rf_0_4, rf_0_5, rf_0_6, rf_1_0, rf_1_1, rfa_2, rf_20_0, rf_20_1, rf_23_0, rfa_24, rf_37_1, rf_37_3, rf_37_4, rf_37_5, rf_37_6, rf_37_7, rf_37_8, rf_37_9, rf_37_10, rf_39_0, rf_39_1, rf_49_0, rf_51_0, rf_51_2, rf_51_3, rf_51_4, rf_51_6, rf_53_0, rf_53_1, rfa_59, rf_60_0, rf_62_0, rf_64_0, rf_66_0, rf_68_2, rf_68_3, rf_68_4, rf_68_5, rf_68_6, rf_68_7, rf_68_8, rf_68_9, rf_68_10, rf_68_11, rf_68_12, rf_68_13, rf_68_15, rf_68_16, rf_68_17, rf_68_18, rf_68_19, rf_68_20, rf_68_23, rf_68_27, rf_68_28, rf_68_29, rf_68_30, rf_68_31, rf_68_33, rf_68_35, rf_68_36, la_2, la_3, la_21, la_22, la_24, la_38, la_40, la_41, la_42, la_43, la_44, la_45, la_46, la_47, la_48, la_50, la_52, la_54, la_55, la_56, la_57, la_58, la_59, la_61, la_63, la_65, la_67, la_69, la_70, la_71, la_72, la_73, la_74, la_75, la_76, la_77, la_78, la_79, la_80, la_81, la_82, la_83, la_84, la_85, la_86, la_87, la_88, la_89, la_90, la_91, la_92, la_93, la_94, la_95, rf_sheet, la_cells, u_same1, u_oj, u_ok, v_same1, v_oj, v_ok, n_lt, n_le, n_eq, n_lt0, n_ge0, n_gt0, n_le0, n_eq0, n_cl, nI_add, n_sub, n_l, lt_m1, lt_m2, lt_m3, lt_m4, lt_m9, c_ge, c_le, c_gt, c_lt, c_eq, w_ge, w_lt, w_gt, not_true_eq_false, not_false_eq_true, ↓reduceIte, Nat.reduceAdd, Nat.reduceSub, Nat.reduceEqDiff, Nat.reduceLT, Nat.reduceLeDiff, Nat.add_sub_cancel, true_and, and_true]
      first | rw [e1] | skip
    · have g2 : ¬ z - 6 < i := by omega
      have a0 := i_in hz hz2 (k := i) (by omega)
      have next : ∀ τ, InvS J z τ → wp 100 mL_law 1225 [.ref 1000, .ref 0, .ref 68, .int (nI i)] [] τ (fun v _ => v = .int 1) := fun τ hτ => by
        have := ih (i + 6) τ (by omega) (by omega) hτ
        simp (disch := first | decide | assumption | omega | exact cat_int | exact cat_ref | exact cat_null | exact Or.inl rfl | exact Or.inr rfl | (refine so_node ?_; omega) | (refine inA_n ?_ ?_ <;> (try simp only [la_2, la_3, la_21, la_22, la_24, la_38, la_40, la_41, la_42, la_43, la_44, la_45, la_46, la_47, la_48, la_50, la_52, la_54, la_55, la_56, la_57, la_58, la_59, la_61, la_63, la_65, la_67, la_69, la_70, la_71, la_72, la_73, la_74, la_75, la_76, la_77, la_78, la_79, la_80, la_81, la_82, la_83, la_84, la_85, la_86, la_87, la_88, la_89, la_90, la_91, la_92, la_93, la_94, la_95]) <;> omega) | (simp (disch := omega) only [u_same1, u_oj, u_ok]; assumption) | (refine so_wish ?_; omega) | (refine so_sheet ?_; omega) | (refine ta_cells ?_; omega) | (refine inA_c ?_ ?_ <;> omega) | (rw [ta_cells] <;> omega)) only [sL_law_1225, sL_law_1228, rf_0_0, rf_0_1, rf_0_2, rf_0_3, rf_0_4, rf_0_5, rf_0_6, rf_1_0, rf_1_1, rfa_2, rf_20_0, rf_20_1, rf_23_0, rfa_24, rf_37_1, rf_37_3, rf_37_4, rf_37_5, rf_37_6, rf_37_7, rf_37_8, rf_37_9, rf_37_10, rf_39_0, rf_39_1, rf_49_0, rf_51_0, rf_51_2, rf_51_3, rf_51_4, rf_51_6, rf_53_0, rf_53_1, rfa_59, rf_60_0, rf_62_0, rf_64_0, rf_66_0, rf_68_2, rf_68_3, rf_68_4, rf_68_5, rf_68_6, rf_68_7, rf_68_8, rf_68_9, rf_68_10, rf_68_11, rf_68_12, rf_68_13, rf_68_15, rf_68_16, rf_68_17, rf_68_18, rf_68_19, rf_68_20, rf_68_23, rf_68_27, rf_68_28, rf_68_29, rf_68_30, rf_68_31, rf_68_33, rf_68_35, rf_68_36, la_2, la_3, la_21, la_22, la_24, la_38, la_40, la_41, la_42, la_43, la_44, la_45, la_46, la_47, la_48, la_50, la_52, la_54, la_55, la_56, la_57, la_58, la_59, la_61, la_63, la_65, la_67, la_69, la_70, la_71, la_72, la_73, la_74, la_75, la_76, la_77, la_78, la_79, la_80, la_81, la_82, la_83, la_84, la_85, la_86, la_87, la_88, la_89, la_90, la_91, la_92, la_93, la_94, la_95, rf_sheet, la_cells, u_same1, u_oj, u_ok, v_same1, v_oj, v_ok, n_lt, n_le, n_eq, n_lt0, n_ge0, n_gt0, n_le0, n_eq0, n_cl, nI_add, n_sub, n_l, lt_m1, lt_m2, lt_m3, lt_m4, lt_m9, c_ge, c_le, c_gt, c_lt, c_eq, w_ge, w_lt, w_gt, not_true_eq_false, not_false_eq_true, ↓reduceIte, Nat.reduceAdd, Nat.reduceSub, Nat.reduceEqDiff, Nat.reduceLT, Nat.reduceLeDiff, Nat.add_sub_cancel, true_and, and_true]
        exact this
      obtain ⟨j, hj, ej⟩ := pk_andE (I 1000 i) (m := nI 63) 6 (by decide +kernel)
      have pre : swt (fun t => wp 100 mL_law t [.ref 1000, .ref 0, .ref 68, .int (nI i)] [] (rn I L) (fun v _ => v = .int 1)) 1225 (nI j) 0 [184, 207, 260, 293, 316, 359, 392, 441, 475, 508, 521, 535, 598, 651, 674, 707, 730, 753, 776, 819, 832, 845, 868, 881, 924, 947, 990, 1034, 1097, 1120, 1143, 1176, 1189, 1202] := by
        have hi6 : i + 6 ≤ z := by omega
        rw [swt]
        split
        · exact lw_source A hJ hz hz2 hi6 next
        rw [swt]
        split
        · exact lw_stage A hJ hz hz2 hi6 next
        rw [swt]
        split
        · exact lw_choice A hJ hz hz2 hi6 next
        rw [swt]
        split
        · exact lw_gate A hJ hz hz2 hi6 next
        rw [swt]
        split
        · exact lw_limits A hJ hz hz2 hi6 next
        rw [swt]
        split
        · exact lw_set A hJ hz hz2 hi6 next
        rw [swt]
        split
        · exact lw_lock A hJ hz hz2 hi6 next
        rw [swt]
        split
        · exact lw_rate A hJ hz hz2 hi6 next
        rw [swt]
        split
        · exact lw_about A hJ hz hz2 hi6 next
        rw [swt]
        split
        · exact lw_sound A hJ hz hz2 hi6 next
        rw [swt]
        split
        · exact lw_power A hJ hz hz2 hi6 next
        rw [swt]
        split
        · exact lw_wish A hJ hz hz2 hi6 next
        rw [swt]
        split
        · exact lw_multiple A hJ hz hz2 hi6 next
        rw [swt]
        split
        · exact lw_miss A hJ hz hz2 hi6 next
        rw [swt]
        split
        · exact lw_wished A hJ hz hz2 hi6 next
        rw [swt]
        split
        · exact lw_search A hJ hz hz2 hi6 next
        rw [swt]
        split
        · exact lw_hopeless A hJ hz hz2 hi6 next
        rw [swt]
        split
        · exact lw_planned A hJ hz hz2 hi6 next
        rw [swt]
        split
        · exact lw_plan A hJ hz hz2 hi6 next
        rw [swt]
        split
        · exact lw_tried A hJ hz hz2 hi6 next
        rw [swt]
        split
        · exact lw_change A hJ hz hz2 hi6 next
        rw [swt]
        split
        · exact lw_step A hJ hz hz2 hi6 next
        rw [swt]
        split
        · exact lw_go A hJ hz hz2 hi6 next
        rw [swt]
        split
        · exact lw_sheet A hJ hz hz2 hi6 next
        rw [swt]
        split
        · exact lw_lose A hJ hz hz2 hi6 next
        rw [swt]
        split
        · exact lw_put A hJ hz hz2 hi6 next
        rw [swt]
        split
        · exact lw_cell A hJ hz hz2 hi6 next
        rw [swt]
        split
        · exact lw_copy A hJ hz hz2 hi6 next
        rw [swt]
        split
        · exact lw_tell A hJ hz hz2 hi6 next
        rw [swt]
        split
        · exact lw_spread A hJ hz hz2 hi6 next
        rw [swt]
        split
        · exact lw_as A hJ hz hz2 hi6 next
        rw [swt]
        split
        · exact lw_trace A hJ hz hz2 hi6 next
        rw [swt]
        split
        · exact lw_fault A hJ hz hz2 hi6 next
        rw [swt]
        split
        · exact lw_told A hJ hz hz2 hi6 next
        rw [swt]
        exact next _ hS0
      rw [sL_law_18, sL_law_19, sL_law_20, hz, n_cl (by omega), sL_law_21, sL_law_23, sL_law_24, if_neg (by rw [g]; exact g1), sL_law_27, sL_law_28, sL_law_29 a0, n_cl (by omega), sL_law_30, sL_law_32, ej, sL_law_33]
      exact pre
end
