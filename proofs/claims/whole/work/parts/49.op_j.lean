/-! a new row of cells -/
def zf (I : Nat → Nat → Int32) (r i n : Nat) : Nat → Nat → Int32 := va_up I r (fun j => if i ≤ j ∧ j < n then nI 0 else I r j)
theorem zf_end {I : Nat → Nat → Int32} {r n : Nat} : zf I r n n = I := by
  funext q
  unfold zf va_up
  by_cases e : q = r
  · subst e
    rw [if_pos rfl]
    funext j
    rw [if_neg (by omega)]
  · rw [if_neg e]
theorem zf_step {I : Nat → Nat → Int32} {r i n : Nat} (h : i < n) : zf (up2 I r i (nI 0)) r (i + 1) n = zf I r i n := by
  funext q
  unfold zf up2 va_up upd
  by_cases e : q = r
  · subst e
    simp only [if_pos]
    funext j
    by_cases h1 : i + 1 ≤ j ∧ j < n
    · rw [if_pos h1, if_pos (by omega)]
    · rw [if_neg h1]
      by_cases h2 : j = i
      · rw [if_pos h2, if_pos (by omega)]
      · rw [if_neg h2, if_neg (by omega)]
  · simp [e]
section
variable {d : Nat} {Q : Value → Sg → Prop} {L : Nat → Nat → Int64}
set_option maxHeartbeats 2000000 in
theorem renew_loop {k : Nat} (hk : k < 4) {a b : Value} (hb : b.category = 1) : ∀ (m i : Nat) (I : Nat → Nat → Int32), i + m = 24 → wp d mX4_renew 12 [.ref (60 + 2 * k), a, b, .int (nI i)] [] (rn I L) Q = Q .null (rn (zf I (61 + 2 * k) i 24) L) := by
  intro m
  induction m with
  | zero =>
    intro i I h
    obtain rfl : i = 24 := by omega
    rw [sX4_renew_12, zf_end]
    simp (disch := first | decide | assumption | omega | exact cat_int | exact cat_ref | exact cat_null | exact Or.inl rfl | exact Or.inr rfl | (refine so_node ?_; omega) | (refine inA_n ?_ ?_ <;> (try simp only [la_2, la_3, la_21, la_22, la_24, la_38, la_40, la_41, la_42, la_43, la_44, la_45, la_46, la_47, la_48, la_50, la_52, la_54, la_55, la_56, la_57, la_58, la_59, la_61, la_63, la_65, la_67, la_69, la_70, la_71, la_72, la_73, la_74, la_75, la_76, la_77, la_78, la_79, la_80, la_81, la_82, la_83, la_84, la_85, la_86, la_87, la_88, la_89, la_90, la_91, la_92, la_93, la_94, la_95]) <;> omega) | (simp (disch := omega) only [u_same1, u_oj, u_ok]; assumption) | (refine so_wish ?_; omega) | (refine so_sheet ?_; omega) | (refine ta_cells ?_; omega) | (refine inA_c ?_ ?_ <;> omega) | (rw [ta_cells] <;> omega)) only [sX4_renew_0, sX4_renew_1, sX4_renew_2, sX4_renew_5, sX4_renew_6, sX4_renew_7, sX4_renew_10, sX4_renew_11, sX4_renew_13, sX4_renew_14, sX4_renew_17, sX4_renew_18, sX4_renew_21, sX4_renew_22, sX4_renew_25, sX4_renew_26, sX4_renew_27, sX4_renew_28, sX4_renew_31, sX4_renew_34, ta_cells hk, la_cells hk, rf_0_0, rf_0_1, rf_0_2, rf_0_3, rf_0_4, rf_0_5, rf_0_6, rf_1_0, rf_1_1, rfa_2, rf_20_0, rf_20_1, rf_23_0, rfa_24, rf_37_1, rf_37_3, rf_37_4, rf_37_5, rf_37_6, rf_37_7, rf_37_8, rf_37_9, rf_37_10, rf_39_0, rf_39_1, rf_49_0, rf_51_0, rf_51_2, rf_51_3, rf_51_4, rf_51_6, rf_53_0, rf_53_1, rfa_59, rf_60_0, rf_62_0, rf_64_0, rf_66_0, rf_68_2, rf_68_3, rf_68_4, rf_68_5, rf_68_6, rf_68_7, rf_68_8, rf_68_9, rf_68_10, rf_68_11, rf_68_12, rf_68_13, rf_68_15, rf_68_16, rf_68_17, rf_68_18, rf_68_19, rf_68_20, rf_68_23, rf_68_27, rf_68_28, rf_68_29, rf_68_30, rf_68_31, rf_68_33, rf_68_35, rf_68_36, la_2, la_3, la_21, la_22, la_24, la_38, la_40, la_41, la_42, la_43, la_44, la_45, la_46, la_47, la_48, la_50, la_52, la_54, la_55, la_56, la_57, la_58, la_59, la_61, la_63, la_65, la_67, la_69, la_70, la_71, la_72, la_73, la_74, la_75, la_76, la_77, la_78, la_79, la_80, la_81, la_82, la_83, la_84, la_85, la_86, la_87, la_88, la_89, la_90, la_91, la_92, la_93, la_94, la_95, rf_sheet, la_cells, u_same1, u_oj, u_ok, v_same1, v_oj, v_ok, n_lt, n_le, n_eq, n_lt0, n_ge0, n_gt0, n_le0, n_eq0, n_cl, nI_add, n_sub, n_l, lt_m1, lt_m2, lt_m3, lt_m4, lt_m9, c_ge, c_le, c_gt, c_lt, c_eq, w_ge, w_lt, w_gt, not_true_eq_false, not_false_eq_true, ↓reduceIte, Nat.reduceAdd, Nat.reduceSub, Nat.reduceEqDiff, Nat.reduceLT, Nat.reduceLeDiff, Nat.add_sub_cancel, true_and, and_true]
  | succ m ih =>
    intro i I h
    have h1 : ¬ 24 ≤ i := by omega
    rw [sX4_renew_12, ← zf_step (by omega : i < 24), ← ih (i + 1) _ (by omega)]
    simp (disch := first | decide | assumption | omega | exact cat_int | exact cat_ref | exact cat_null | exact Or.inl rfl | exact Or.inr rfl | (refine so_node ?_; omega) | (refine inA_n ?_ ?_ <;> (try simp only [la_2, la_3, la_21, la_22, la_24, la_38, la_40, la_41, la_42, la_43, la_44, la_45, la_46, la_47, la_48, la_50, la_52, la_54, la_55, la_56, la_57, la_58, la_59, la_61, la_63, la_65, la_67, la_69, la_70, la_71, la_72, la_73, la_74, la_75, la_76, la_77, la_78, la_79, la_80, la_81, la_82, la_83, la_84, la_85, la_86, la_87, la_88, la_89, la_90, la_91, la_92, la_93, la_94, la_95]) <;> omega) | (simp (disch := omega) only [u_same1, u_oj, u_ok]; assumption) | (refine so_wish ?_; omega) | (refine so_sheet ?_; omega) | (refine ta_cells ?_; omega) | (refine inA_c ?_ ?_ <;> omega) | (rw [ta_cells] <;> omega)) only [sX4_renew_0, sX4_renew_1, sX4_renew_2, sX4_renew_5, sX4_renew_6, sX4_renew_7, sX4_renew_10, sX4_renew_11, sX4_renew_13, sX4_renew_14, sX4_renew_17, sX4_renew_18, sX4_renew_21, sX4_renew_22, sX4_renew_25, sX4_renew_26, sX4_renew_27, sX4_renew_28, sX4_renew_31, sX4_renew_34, ta_cells hk, la_cells hk, h1, rf_0_0, rf_0_1, rf_0_2, rf_0_3, rf_0_4, rf_0_5, rf_0_6, rf_1_0, rf_1_1, rfa_2, rf_20_0, rf_20_1, rf_23_0, rfa_24, rf_37_1, rf_37_3, rf_37_4, rf_37_5, rf_37_6, rf_37_7, rf_37_8, rf_37_9, rf_37_10, rf_39_0, rf_39_1, rf_49_0, rf_51_0, rf_51_2, rf_51_3, rf_51_4, rf_51_6, rf_53_0, rf_53_1, rfa_59, rf_60_0, rf_62_0, rf_64_0, rf_66_0, rf_68_2, rf_68_3, rf_68_4, rf_68_5, rf_68_6, rf_68_7, rf_68_8, rf_68_9, rf_68_10, rf_68_11, rf_68_12, rf_68_13, rf_68_15, rf_68_16, rf_68_17, rf_68_18, rf_68_19, rf_68_20, rf_68_23, rf_68_27, rf_68_28, rf_68_29, rf_68_30, rf_68_31, rf_68_33, rf_68_35, rf_68_36, la_2, la_3, la_21, la_22, la_24, la_38, la_40, la_41, la_42, la_43, la_44, la_45, la_46, la_47, la_48, la_50, la_52, la_54, la_55, la_56, la_57, la_58, la_59, la_61, la_63, la_65, la_67, la_69, la_70, la_71, la_72, la_73, la_74, la_75, la_76, la_77, la_78, la_79, la_80, la_81, la_82, la_83, la_84, la_85, la_86, la_87, la_88, la_89, la_90, la_91, la_92, la_93, la_94, la_95, rf_sheet, la_cells, u_same1, u_oj, u_ok, v_same1, v_oj, v_ok, n_lt, n_le, n_eq, n_lt0, n_ge0, n_gt0, n_le0, n_eq0, n_cl, nI_add, n_sub, n_l, lt_m1, lt_m2, lt_m3, lt_m4, lt_m9, c_ge, c_le, c_gt, c_lt, c_eq, w_ge, w_lt, w_gt, not_true_eq_false, not_false_eq_true, ↓reduceIte, Nat.reduceAdd, Nat.reduceSub, Nat.reduceEqDiff, Nat.reduceLT, Nat.reduceLeDiff, Nat.add_sub_cancel, true_and, and_true]
end
