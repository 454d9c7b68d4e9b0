/-! go -/
def gw (p : Nat → Int32) (s : Nat → Nat) : Nat → Nat → (Nat → Int32) → Nat → Int32
  | 0, _, f => f
  | m + 1, i, f => gw p s m (i + 1) (upd f (s i) (p (s i)))
theorem va_up_up {I : Nat → Nat → Int32} {r : Nat} {f g : Nat → Int32} : va_up (va_up I r f) r g = va_up I r g := by
  funext q
  unfold va_up
  by_cases e : q = r
  · rw [if_pos e, if_pos e]
  · rw [if_neg e, if_neg e, if_neg e]
section
variable {d : Nat} {Q : Value → Sg → Prop} {L : Nat → Nat → Int64}
set_option maxHeartbeats 2000000 in
theorem go_loop {c : Nat} (hc : c ≤ 12) {s : Nat → Nat} (hs : ∀ t, t < c → s t < 16) : ∀ (m i : Nat) (I : Nat → Nat → Int32) (a : Value), i + m = c → (∀ t, t < c → I 52 t = nI (s t)) → wp (d + 1) mX9_go 23 [.ref 0, .int (nI c), .int (nI i), a] [] (rn I L) Q = Q (.int (nI c)) (rn (up2 (va_up I 3 (gw (I 50) s m i (I 3))) 51 1 (-9)) L) := by
  intro m
  induction m with
  | zero =>
    intro i I a h h52
    obtain rfl : i = c := by omega
    have e1 : va_up I 3 (gw (I 50) s 0 i (I 3)) = I := by
      funext q
      unfold gw va_up
      by_cases e : q = 3
      · rw [if_pos e, e]
      · rw [if_neg e]
    rw [sX9_go_23, e1]
    simp (disch := first | decide | assumption | omega | exact cat_int | exact cat_ref | exact cat_null | exact Or.inl rfl | exact Or.inr rfl | (refine so_node ?_; omega) | (refine inA_n ?_ ?_ <;> (try simp only [la_2, la_3, la_21, la_22, la_24, la_38, la_40, la_41, la_42, la_43, la_44, la_45, la_46, la_47, la_48, la_50, la_52, la_54, la_55, la_56, la_57, la_58, la_59, la_61, la_63, la_65, la_67, la_69, la_70, la_71, la_72, la_73, la_74, la_75, la_76, la_77, la_78, la_79, la_80, la_81, la_82, la_83, la_84, la_85, la_86, la_87, la_88, la_89, la_90, la_91, la_92, la_93, la_94, la_95]) <;> omega) | (simp (disch := omega) only [u_same1, u_oj, u_ok]; assumption) | (refine so_wish ?_; omega) | (refine so_sheet ?_; omega) | (refine ta_cells ?_; omega) | (refine inA_c ?_ ?_ <;> omega) | (rw [ta_cells] <;> omega)) only [sX9_go_0, sX9_go_1, sX9_go_4, sX9_go_7, sX9_go_10, sX9_go_12, sX9_go_13, sX9_go_14, sX9_go_17, sX9_go_20, sX9_go_21, sX9_go_22, sX9_go_24, sX9_go_25, sX9_go_28, sX9_go_29, sX9_go_32, sX9_go_35, sX9_go_36, sX9_go_37, sX9_go_38, sX9_go_39, sX9_go_42, sX9_go_45, sX9_go_46, sX9_go_47, sX9_go_50, sX9_go_53, sX9_go_54, sX9_go_55, sX9_go_56, sX9_go_59, sX9_go_62, sX9_go_63, sX9_go_66, sX9_go_69, sX9_go_70, sX6_drop_0, sX6_drop_1, sX6_drop_3, sX6_drop_6, Nat.le_refl, rf_0_0, rf_0_1, rf_0_2, rf_0_3, rf_0_4, rf_0_5, rf_0_6, rf_1_0, rf_1_1, rfa_2, rf_20_0, rf_20_1, rf_23_0, rfa_24, rf_37_1, rf_37_3, rf_37_4, rf_37_5, rf_37_6, rf_37_7, rf_37_8, rf_37_9, rf_37_10, rf_39_0, rf_39_1, rf_49_0, rf_51_0, rf_51_2, rf_51_3, rf_51_4, rf_51_6, rf_53_0, rf_53_1, rfa_59, rf_60_0, rf_62_0, rf_64_0, rf_66_0, rf_68_2, rf_68_3, rf_68_4, rf_68_5, rf_68_6, rf_68_7, rf_68_8, rf_68_9, rf_68_10, rf_68_11, rf_68_12, rf_68_13, rf_68_15, rf_68_16, rf_68_17, rf_68_18, rf_68_19, rf_68_20, rf_68_23, rf_68_27, rf_68_28, rf_68_29, rf_68_30, rf_68_31, rf_68_33, rf_68_35, rf_68_36, la_2, la_3, la_21, la_22, la_24, la_38, la_40, la_41, la_42, la_43, la_44, la_45, la_46, la_47, la_48, la_50, la_52, la_54, la_55, la_56, la_57, la_58, la_59, la_61, la_63, la_65, la_67, la_69, la_70, la_71, la_72, la_73, la_74, la_75, la_76, la_77, la_78, la_79, la_80, la_81, la_82, la_83, la_84, la_85, la_86, la_87, la_88, la_89, la_90, la_91, la_92, la_93, la_94, la_95, rf_sheet, la_cells, u_same1, u_oj, u_ok, v_same1, v_oj, v_ok, n_lt, n_le, n_eq, n_lt0, n_ge0, n_gt0, n_le0, n_eq0, n_cl, nI_add, n_sub, n_l, lt_m1, lt_m2, lt_m3, lt_m4, lt_m9, c_ge, c_le, c_gt, c_lt, c_eq, w_ge, w_lt, w_gt, not_true_eq_false, not_false_eq_true, ↓reduceIte, Nat.reduceAdd, Nat.reduceSub, Nat.reduceEqDiff, Nat.reduceLT, Nat.reduceLeDiff, Nat.add_sub_cancel, true_and, and_true]
  | succ m ih =>
    intro i I a h h52
    have h1 : ¬ c ≤ i := by omega
    have hi := hs i (by omega)
    have e52 := h52 i (by omega)
    have key := ih (i + 1) (up2 I 3 (s i) (I 50 (s i))) (.int (nI (s i))) (by omega) (fun t ht => by rw [up2_ne (by omega)]; exact h52 t ht)
    rw [up2_ne (k := 3) (q := 50) (by omega), up2_eq] at key
    have e2 : va_up (up2 I 3 (s i) (I 50 (s i))) 3 (gw (I 50) s m (i + 1) (upd (I 3) (s i) (I 50 (s i)))) = va_up I 3 (gw (I 50) s (m + 1) i (I 3)) := by
      unfold up2
      rw [va_up_up]
      rfl
    rw [e2] at key
    rw [sX9_go_23, ← key]
    simp (disch := first | decide | assumption | omega | exact cat_int | exact cat_ref | exact cat_null | exact Or.inl rfl | exact Or.inr rfl | (refine so_node ?_; omega) | (refine inA_n ?_ ?_ <;> (try simp only [la_2, la_3, la_21, la_22, la_24, la_38, la_40, la_41, la_42, la_43, la_44, la_45, la_46, la_47, la_48, la_50, la_52, la_54, la_55, la_56, la_57, la_58, la_59, la_61, la_63, la_65, la_67, la_69, la_70, la_71, la_72, la_73, la_74, la_75, la_76, la_77, la_78, la_79, la_80, la_81, la_82, la_83, la_84, la_85, la_86, la_87, la_88, la_89, la_90, la_91, la_92, la_93, la_94, la_95]) <;> omega) | (simp (disch := omega) only [u_same1, u_oj, u_ok]; assumption) | (refine so_wish ?_; omega) | (refine so_sheet ?_; omega) | (refine ta_cells ?_; omega) | (refine inA_c ?_ ?_ <;> omega) | (rw [ta_cells] <;> omega)) only [sX9_go_0, sX9_go_1, sX9_go_4, sX9_go_7, sX9_go_10, sX9_go_12, sX9_go_13, sX9_go_14, sX9_go_17, sX9_go_20, sX9_go_21, sX9_go_22, sX9_go_24, sX9_go_25, sX9_go_28, sX9_go_29, sX9_go_32, sX9_go_35, sX9_go_36, sX9_go_37, sX9_go_38, sX9_go_39, sX9_go_42, sX9_go_45, sX9_go_46, sX9_go_47, sX9_go_50, sX9_go_53, sX9_go_54, sX9_go_55, sX9_go_56, sX9_go_59, sX9_go_62, sX9_go_63, sX9_go_66, sX9_go_69, sX9_go_70, h1, e52, rf_0_0, rf_0_1, rf_0_2, rf_0_3, rf_0_4, rf_0_5, rf_0_6, rf_1_0, rf_1_1, rfa_2, rf_20_0, rf_20_1, rf_23_0, rfa_24, rf_37_1, rf_37_3, rf_37_4, rf_37_5, rf_37_6, rf_37_7, rf_37_8, rf_37_9, rf_37_10, rf_39_0, rf_39_1, rf_49_0, rf_51_0, rf_51_2, rf_51_3, rf_51_4, rf_51_6, rf_53_0, rf_53_1, rfa_59, rf_60_0, rf_62_0, rf_64_0, rf_66_0, rf_68_2, rf_68_3, rf_68_4, rf_68_5, rf_68_6, rf_68_7, rf_68_8, rf_68_9, rf_68_10, rf_68_11, rf_68_12, rf_68_13, rf_68_15, rf_68_16, rf_68_17, rf_68_18, rf_68_19, rf_68_20, rf_68_23, rf_68_27, rf_68_28, rf_68_29, rf_68_30, rf_68_31, rf_68_33, rf_68_35, rf_68_36, la_2, la_3, la_21, la_22, la_24, la_38, la_40, la_41, la_42, la_43, la_44, la_45, la_46, la_47, la_48, la_50, la_52, la_54, la_55, la_56, la_57, la_58, la_59, la_61, la_63, la_65, la_67, la_69, la_70, la_71, la_72, la_73, la_74, la_75, la_76, la_77, la_78, la_79, la_80, la_81, la_82, la_83, la_84, la_85, la_86, la_87, la_88, la_89, la_90, la_91, la_92, la_93, la_94, la_95, rf_sheet, la_cells, u_same1, u_oj, u_ok, v_same1, v_oj, v_ok, n_lt, n_le, n_eq, n_lt0, n_ge0, n_gt0, n_le0, n_eq0, n_cl, nI_add, n_sub, n_l, lt_m1, lt_m2, lt_m3, lt_m4, lt_m9, c_ge, c_le, c_gt, c_lt, c_eq, w_ge, w_lt, w_gt, not_true_eq_false, not_false_eq_true, ↓reduceIte, Nat.reduceAdd, Nat.reduceSub, Nat.reduceEqDiff, Nat.reduceLT, Nat.reduceLeDiff, Nat.add_sub_cancel, true_and, and_true]
set_option maxHeartbeats 2000000 in
theorem mgo_loop {c : Nat} (hc : c ≤ 12) {s : Nat → Nat} (hs : ∀ t, t < c → s t < 16) : ∀ (m i : Nat) (I : Nat → Nat → Int32), i + m = c → (∀ t, t < c → I 93 t = nI (s t)) → wp d mX10_go 17 [.ref 68, .int (nI c), .int (nI i)] [] (rn I L) Q = Q (.int (nI c)) (rn (up2 (va_up I 74 (gw (I 87) s m i (I 74))) 68 32 (-9)) L) := by
  intro m
  induction m with
  | zero =>
    intro i I h h52
    obtain rfl : i = c := by omega
    have e1 : va_up I 74 (gw (I 87) s 0 i (I 74)) = I := by
      funext q
      unfold gw va_up
      by_cases e : q = 74
      · rw [if_pos e, e]
      · rw [if_neg e]
    rw [sX10_go_17, e1]
    simp (disch := first | decide | assumption | omega | exact cat_int | exact cat_ref | exact cat_null | exact Or.inl rfl | exact Or.inr rfl | (refine so_node ?_; omega) | (refine inA_n ?_ ?_ <;> (try simp only [la_2, la_3, la_21, la_22, la_24, la_38, la_40, la_41, la_42, la_43, la_44, la_45, la_46, la_47, la_48, la_50, la_52, la_54, la_55, la_56, la_57, la_58, la_59, la_61, la_63, la_65, la_67, la_69, la_70, la_71, la_72, la_73, la_74, la_75, la_76, la_77, la_78, la_79, la_80, la_81, la_82, la_83, la_84, la_85, la_86, la_87, la_88, la_89, la_90, la_91, la_92, la_93, la_94, la_95]) <;> omega) | (simp (disch := omega) only [u_same1, u_oj, u_ok]; assumption) | (refine so_wish ?_; omega) | (refine so_sheet ?_; omega) | (refine ta_cells ?_; omega) | (refine inA_c ?_ ?_ <;> omega) | (rw [ta_cells] <;> omega)) only [sX10_go_0, sX10_go_1, sX10_go_4, sX10_go_7, sX10_go_9, sX10_go_10, sX10_go_11, sX10_go_14, sX10_go_15, sX10_go_16, sX10_go_18, sX10_go_19, sX10_go_22, sX10_go_23, sX10_go_26, sX10_go_27, sX10_go_30, sX10_go_31, sX10_go_32, sX10_go_33, sX10_go_36, sX10_go_37, sX10_go_40, sX10_go_41, sX10_go_42, sX10_go_43, sX10_go_44, sX10_go_47, sX10_go_50, sX10_go_51, sX10_go_53, sX10_go_56, sX10_go_57, Nat.le_refl, rf_0_0, rf_0_1, rf_0_2, rf_0_3, rf_0_4, rf_0_5, rf_0_6, rf_1_0, rf_1_1, rfa_2, rf_20_0, rf_20_1, rf_23_0, rfa_24, rf_37_1, rf_37_3, rf_37_4, rf_37_5, rf_37_6, rf_37_7, rf_37_8, rf_37_9, rf_37_10, rf_39_0, rf_39_1, rf_49_0, rf_51_0, rf_51_2, rf_51_3, rf_51_4, rf_51_6, rf_53_0, rf_53_1, rfa_59, rf_60_0, rf_62_0, rf_64_0, rf_66_0, rf_68_2, rf_68_3, rf_68_4, rf_68_5, rf_68_6, rf_68_7, rf_68_8, rf_68_9, rf_68_10, rf_68_11, rf_68_12, rf_68_13, rf_68_15, rf_68_16, rf_68_17, rf_68_18, rf_68_19, rf_68_20, rf_68_23, rf_68_27, rf_68_28, rf_68_29, rf_68_30, rf_68_31, rf_68_33, rf_68_35, rf_68_36, la_2, la_3, la_21, la_22, la_24, la_38, la_40, la_41, la_42, la_43, la_44, la_45, la_46, la_47, la_48, la_50, la_52, la_54, la_55, la_56, la_57, la_58, la_59, la_61, la_63, la_65, la_67, la_69, la_70, la_71, la_72, la_73, la_74, la_75, la_76, la_77, la_78, la_79, la_80, la_81, la_82, la_83, la_84, la_85, la_86, la_87, la_88, la_89, la_90, la_91, la_92, la_93, la_94, la_95, rf_sheet, la_cells, u_same1, u_oj, u_ok, v_same1, v_oj, v_ok, n_lt, n_le, n_eq, n_lt0, n_ge0, n_gt0, n_le0, n_eq0, n_cl, nI_add, n_sub, n_l, lt_m1, lt_m2, lt_m3, lt_m4, lt_m9, c_ge, c_le, c_gt, c_lt, c_eq, w_ge, w_lt, w_gt, not_true_eq_false, not_false_eq_true, ↓reduceIte, Nat.reduceAdd, Nat.reduceSub, Nat.reduceEqDiff, Nat.reduceLT, Nat.reduceLeDiff, Nat.add_sub_cancel, true_and, and_true]
  | succ m ih =>
    intro i I h h52
    have h1 : ¬ c ≤ i := by omega
    have hi := hs i (by omega)
    have e52 := h52 i (by omega)
    have key := ih (i + 1) (up2 I 74 (s i) (I 87 (s i))) (by omega) (fun t ht => by rw [up2_ne (by omega)]; exact h52 t ht)
    rw [up2_ne (k := 74) (q := 87) (by omega), up2_eq] at key
    have e2 : va_up (up2 I 74 (s i) (I 87 (s i))) 74 (gw (I 87) s m (i + 1) (upd (I 74) (s i) (I 87 (s i)))) = va_up I 74 (gw (I 87) s (m + 1) i (I 74)) := by
      unfold up2
      rw [va_up_up]
      rfl
    rw [e2] at key
    rw [sX10_go_17, ← key]
    simp (disch := first | decide | assumption | omega | exact cat_int | exact cat_ref | exact cat_null | exact Or.inl rfl | exact Or.inr rfl | (refine so_node ?_; omega) | (refine inA_n ?_ ?_ <;> (try simp only [la_2, la_3, la_21, la_22, la_24, la_38, la_40, la_41, la_42, la_43, la_44, la_45, la_46, la_47, la_48, la_50, la_52, la_54, la_55, la_56, la_57, la_58, la_59, la_61, la_63, la_65, la_67, la_69, la_70, la_71, la_72, la_73, la_74, la_75, la_76, la_77, la_78, la_79, la_80, la_81, la_82, la_83, la_84, la_85, la_86, la_87, la_88, la_89, la_90, la_91, la_92, la_93, la_94, la_95]) <;> omega) | (simp (disch := omega) only [u_same1, u_oj, u_ok]; assumption) | (refine so_wish ?_; omega) | (refine so_sheet ?_; omega) | (refine ta_cells ?_; omega) | (refine inA_c ?_ ?_ <;> omega) | (rw [ta_cells] <;> omega)) only [sX10_go_0, sX10_go_1, sX10_go_4, sX10_go_7, sX10_go_9, sX10_go_10, sX10_go_11, sX10_go_14, sX10_go_15, sX10_go_16, sX10_go_18, sX10_go_19, sX10_go_22, sX10_go_23, sX10_go_26, sX10_go_27, sX10_go_30, sX10_go_31, sX10_go_32, sX10_go_33, sX10_go_36, sX10_go_37, sX10_go_40, sX10_go_41, sX10_go_42, sX10_go_43, sX10_go_44, sX10_go_47, sX10_go_50, sX10_go_51, sX10_go_53, sX10_go_56, sX10_go_57, h1, e52, rf_0_0, rf_0_1, rf_0_2, rf_0_3, rf_0_4, rf_0_5, rf_0_6, rf_1_0, rf_1_1, rfa_2, rf_20_0, rf_20_1, rf_23_0, rfa_24, rf_37_1, rf_37_3, rf_37_4, rf_37_5, rf_37_6, rf_37_7, rf_37_8, rf_37_9, rf_37_10, rf_39_0, rf_39_1, rf_49_0, rf_51_0, rf_51_2, rf_51_3, rf_51_4, rf_51_6, rf_53_0, rf_53_1, rfa_59, rf_60_0, rf_62_0, rf_64_0, rf_66_0, rf_68_2, rf_68_3, rf_68_4, rf_68_5, rf_68_6, rf_68_7, rf_68_8, rf_68_9, rf_68_10, rf_68_11, rf_68_12, rf_68_13, rf_68_15, rf_68_16, rf_68_17, rf_68_18, rf_68_19, rf_68_20, rf_68_23, rf_68_27, rf_68_28, rf_68_29, rf_68_30, rf_68_31, rf_68_33, rf_68_35, rf_68_36, la_2, la_3, la_21, la_22, la_24, la_38, la_40, la_41, la_42, la_43, la_44, la_45, la_46, la_47, la_48, la_50, la_52, la_54, la_55, la_56, la_57, la_58, la_59, la_61, la_63, la_65, la_67, la_69, la_70, la_71, la_72, la_73, la_74, la_75, la_76, la_77, la_78, la_79, la_80, la_81, la_82, la_83, la_84, la_85, la_86, la_87, la_88, la_89, la_90, la_91, la_92, la_93, la_94, la_95, rf_sheet, la_cells, u_same1, u_oj, u_ok, v_same1, v_oj, v_ok, n_lt, n_le, n_eq, n_lt0, n_ge0, n_gt0, n_le0, n_eq0, n_cl, nI_add, n_sub, n_l, lt_m1, lt_m2, lt_m3, lt_m4, lt_m9, c_ge, c_le, c_gt, c_lt, c_eq, w_ge, w_lt, w_gt, not_true_eq_false, not_false_eq_true, ↓reduceIte, Nat.reduceAdd, Nat.reduceSub, Nat.reduceEqDiff, Nat.reduceLT, Nat.reduceLeDiff, Nat.add_sub_cancel, true_and, and_true]
end
