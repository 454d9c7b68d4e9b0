/-! is there such a node, such a wish -/
theorem vz0 : vp_nar .boolean (nI 0) = nI 0 := by decide +kernel
theorem vz1 : vp_nar .boolean (nI 1) = nI 1 := by decide +kernel
theorem lsub1 {N : Nat} (h : N ≤ 16) : (lN N - lN 1).toInt = (N : Int) - 1 := by
  have : ∀ N, N < 17 → (lN N - lN 1).toInt = (N : Int) - 1 := by decide +kernel
  exact this N (by omega)
theorem n_cases (x : Int32) {N : Nat} (hN : N ≤ 16) (h : ¬ ∃ j, j < N ∧ x = nI j) : x < 0 ∨ (¬ x < 0 ∧ nI N ≤ x) := by
  rcases pk_ix x (n := N) (by omega) with q | q | q
  · exact Or.inl q
  · by_cases e : x < 0
    · exact Or.inl e
    · exact Or.inr ⟨e, q⟩
  · exact absurd q h
theorem f_nlt {x : Int32} {a : Nat} (h : nI a ≤ x) : (x < nI a) = False := eq_false (by rw [Int32.not_lt]; exact h)
theorem w_top {x : Int32} {N : Nat} (hN : N ≤ 16) (h : nI N ≤ x) : (x.toInt64 ≤ lN N - lN 1) = False := by
  apply eq_false
  rw [Int64.le_iff_toInt_le, lsub1 hN, Int32.toInt_toInt64]
  rw [Int32.le_iff_toInt_le, nI_toInt (by omega)] at h
  omega
theorem w_in {j N : Nat} (hN : N ≤ 16) (h : j < N) : (lN j ≤ lN N - lN 1) = True := by
  apply eq_true
  rw [Int64.le_iff_toInt_le, lsub1 hN, lN_toInt (by omega)]
  omega
theorem w_neg {x : Int32} (h : x < 0) : (lN 0 ≤ x.toInt64) = False := by
  rw [w_ge x (by omega)]
  apply eq_false
  intro q
  exact absurd h (Int32.not_lt.mpr q)
theorem w_pos {x : Int32} (h : ¬ x < 0) : (lN 0 ≤ x.toInt64) = True := by
  rw [w_ge x (by omega)]
  exact eq_true (Int32.not_lt.mp h)
theorem i64_nle {a b : Int64} : (a < b) = ¬ (b ≤ a) := propext Int64.not_le.symm
section
variable {d : Nat} {Q : Value → Sg → Prop} {I : Nat → Nat → Int32} {L : Nat → Nat → Int64} {N j : Nat} {x : Int32}
theorem has_yes (hN : N ≤ 16) (hc : I 1 2 = nI N) (hj : j < N) : wp d mX5_has 0 [.ref 1, .int (nI j)] [] (rn I L) Q = Q (.int (nI 1)) (rn I L) := by
  simp (disch := first | decide | assumption | omega | exact cat_int | exact cat_ref | exact cat_null | exact Or.inl rfl | exact Or.inr rfl | (refine so_node ?_; omega) | (refine inA_n ?_ ?_ <;> (try simp only [la_2, la_3, la_21, la_22, la_24, la_38, la_40, la_41, la_42, la_43, la_44, la_45, la_46, la_47, la_48, la_50, la_52, la_54, la_55, la_56, la_57, la_58, la_59, la_61, la_63, la_65, la_67, la_69, la_70, la_71, la_72, la_73, la_74, la_75, la_76, la_77, la_78, la_79, la_80, la_81, la_82, la_83, la_84, la_85, la_86, la_87, la_88, la_89, la_90, la_91, la_92, la_93, la_94, la_95]) <;> omega) | (simp (disch := omega) only [u_same1, u_oj, u_ok]; assumption) | (refine so_wish ?_; omega) | (refine so_sheet ?_; omega) | (refine ta_cells ?_; omega) | (refine inA_c ?_ ?_ <;> omega) | (rw [ta_cells] <;> omega)) only [sX5_has_0, sX5_has_1, sX5_has_4, sX5_has_5, sX5_has_6, sX5_has_9, sX5_has_12, sX5_has_13, sX5_has_16, sX5_has_17, hc, n_lt0, n_lt, n_le, hj, Nat.not_le.mpr hj, ↓reduceIte]
theorem has_no (hN : N ≤ 16) (hc : I 1 2 = nI N) (h : ¬ ∃ j, j < N ∧ x = nI j) : wp d mX5_has 0 [.ref 1, .int x] [] (rn I L) Q = Q (.int (nI 0)) (rn I L) := by
  rcases n_cases x hN h with q | ⟨q1, q2⟩
  · simp (disch := first | decide | assumption | omega | exact cat_int | exact cat_ref | exact cat_null | exact Or.inl rfl | exact Or.inr rfl | (refine so_node ?_; omega) | (refine inA_n ?_ ?_ <;> (try simp only [la_2, la_3, la_21, la_22, la_24, la_38, la_40, la_41, la_42, la_43, la_44, la_45, la_46, la_47, la_48, la_50, la_52, la_54, la_55, la_56, la_57, la_58, la_59, la_61, la_63, la_65, la_67, la_69, la_70, la_71, la_72, la_73, la_74, la_75, la_76, la_77, la_78, la_79, la_80, la_81, la_82, la_83, la_84, la_85, la_86, la_87, la_88, la_89, la_90, la_91, la_92, la_93, la_94, la_95]) <;> omega) | (simp (disch := omega) only [u_same1, u_oj, u_ok]; assumption) | (refine so_wish ?_; omega) | (refine so_sheet ?_; omega) | (refine ta_cells ?_; omega) | (refine inA_c ?_ ?_ <;> omega) | (rw [ta_cells] <;> omega)) only [sX5_has_0, sX5_has_1, sX5_has_4, sX5_has_5, sX5_has_6, sX5_has_9, sX5_has_12, sX5_has_13, sX5_has_16, sX5_has_17, hc, q, ↓reduceIte]
  · simp (disch := first | decide | assumption | omega | exact cat_int | exact cat_ref | exact cat_null | exact Or.inl rfl | exact Or.inr rfl | (refine so_node ?_; omega) | (refine inA_n ?_ ?_ <;> (try simp only [la_2, la_3, la_21, la_22, la_24, la_38, la_40, la_41, la_42, la_43, la_44, la_45, la_46, la_47, la_48, la_50, la_52, la_54, la_55, la_56, la_57, la_58, la_59, la_61, la_63, la_65, la_67, la_69, la_70, la_71, la_72, la_73, la_74, la_75, la_76, la_77, la_78, la_79, la_80, la_81, la_82, la_83, la_84, la_85, la_86, la_87, la_88, la_89, la_90, la_91, la_92, la_93, la_94, la_95]) <;> omega) | (simp (disch := omega) only [u_same1, u_oj, u_ok]; assumption) | (refine so_wish ?_; omega) | (refine so_sheet ?_; omega) | (refine ta_cells ?_; omega) | (refine inA_c ?_ ?_ <;> omega) | (rw [ta_cells] <;> omega)) only [sX5_has_0, sX5_has_1, sX5_has_4, sX5_has_5, sX5_has_6, sX5_has_9, sX5_has_12, sX5_has_13, sX5_has_16, sX5_has_17, hc, q1, q2, f_nlt q2, ↓reduceIte]
theorem noNode_yes (hN : N ≤ 16) (hc : I 68 1 = nI N) (hj : j < N) : wp (d + 1) mX10_noNode 0 [.ref 68, .int (nI j)] [] (rn I L) Q = Q (.int (nI 0)) (rn I L) := by
  simp (disch := first | decide | assumption | omega | exact cat_int | exact cat_ref | exact cat_null | exact Or.inl rfl | exact Or.inr rfl | (refine so_node ?_; omega) | (refine inA_n ?_ ?_ <;> (try simp only [la_2, la_3, la_21, la_22, la_24, la_38, la_40, la_41, la_42, la_43, la_44, la_45, la_46, la_47, la_48, la_50, la_52, la_54, la_55, la_56, la_57, la_58, la_59, la_61, la_63, la_65, la_67, la_69, la_70, la_71, la_72, la_73, la_74, la_75, la_76, la_77, la_78, la_79, la_80, la_81, la_82, la_83, la_84, la_85, la_86, la_87, la_88, la_89, la_90, la_91, la_92, la_93, la_94, la_95]) <;> omega) | (simp (disch := omega) only [u_same1, u_oj, u_ok]; assumption) | (refine so_wish ?_; omega) | (refine so_sheet ?_; omega) | (refine ta_cells ?_; omega) | (refine inA_c ?_ ?_ <;> omega) | (rw [ta_cells] <;> omega)) only [sX10_noNode_0, sX10_noNode_1, sX10_noNode_2, sX10_noNode_3, sX10_noNode_4, sX10_noNode_7, sX10_noNode_8, sX10_noNode_9, sX10_noNode_10, sX10_noNode_13, sX10_noNode_16, sX10_noNode_17, sX10_noNode_20, sX10_noNode_21, sX10_in_0, sX10_in_1, sX10_in_2, sX10_in_3, sX10_in_6, sX10_in_7, sX10_in_9, sX10_in_10, sX10_in_13, sX10_in_14, sX10_in_17, sX10_in_18, hc, n_l, c_lt, c_gt, i64_nle, l_le, w_in hN hj, Nat.zero_le, n_eq0, not_true_eq_false, not_false_eq_true, Nat.reduceEqDiff, ↓reduceIte]
theorem noNode_no (hN : N ≤ 16) (hc : I 68 1 = nI N) (h : ¬ ∃ j, j < N ∧ x = nI j) : wp (d + 1) mX10_noNode 0 [.ref 68, .int x] [] (rn I L) Q = Q (.int (nI 1)) (rn I L) := by
  rcases n_cases x hN h with q | ⟨q1, q2⟩
  · simp (disch := first | decide | assumption | omega | exact cat_int | exact cat_ref | exact cat_null | exact Or.inl rfl | exact Or.inr rfl | (refine so_node ?_; omega) | (refine inA_n ?_ ?_ <;> (try simp only [la_2, la_3, la_21, la_22, la_24, la_38, la_40, la_41, la_42, la_43, la_44, la_45, la_46, la_47, la_48, la_50, la_52, la_54, la_55, la_56, la_57, la_58, la_59, la_61, la_63, la_65, la_67, la_69, la_70, la_71, la_72, la_73, la_74, la_75, la_76, la_77, la_78, la_79, la_80, la_81, la_82, la_83, la_84, la_85, la_86, la_87, la_88, la_89, la_90, la_91, la_92, la_93, la_94, la_95]) <;> omega) | (simp (disch := omega) only [u_same1, u_oj, u_ok]; assumption) | (refine so_wish ?_; omega) | (refine so_sheet ?_; omega) | (refine ta_cells ?_; omega) | (refine inA_c ?_ ?_ <;> omega) | (rw [ta_cells] <;> omega)) only [sX10_noNode_0, sX10_noNode_1, sX10_noNode_2, sX10_noNode_3, sX10_noNode_4, sX10_noNode_7, sX10_noNode_8, sX10_noNode_9, sX10_noNode_10, sX10_noNode_13, sX10_noNode_16, sX10_noNode_17, sX10_noNode_20, sX10_noNode_21, sX10_in_0, sX10_in_1, sX10_in_2, sX10_in_3, sX10_in_6, sX10_in_7, sX10_in_9, sX10_in_10, sX10_in_13, sX10_in_14, sX10_in_17, sX10_in_18, hc, n_l, c_lt, c_gt, i64_nle, w_neg q, n_eq0, not_true_eq_false, not_false_eq_true, Nat.reduceEqDiff, ↓reduceIte]
  · simp (disch := first | decide | assumption | omega | exact cat_int | exact cat_ref | exact cat_null | exact Or.inl rfl | exact Or.inr rfl | (refine so_node ?_; omega) | (refine inA_n ?_ ?_ <;> (try simp only [la_2, la_3, la_21, la_22, la_24, la_38, la_40, la_41, la_42, la_43, la_44, la_45, la_46, la_47, la_48, la_50, la_52, la_54, la_55, la_56, la_57, la_58, la_59, la_61, la_63, la_65, la_67, la_69, la_70, la_71, la_72, la_73, la_74, la_75, la_76, la_77, la_78, la_79, la_80, la_81, la_82, la_83, la_84, la_85, la_86, la_87, la_88, la_89, la_90, la_91, la_92, la_93, la_94, la_95]) <;> omega) | (simp (disch := omega) only [u_same1, u_oj, u_ok]; assumption) | (refine so_wish ?_; omega) | (refine so_sheet ?_; omega) | (refine ta_cells ?_; omega) | (refine inA_c ?_ ?_ <;> omega) | (rw [ta_cells] <;> omega)) only [sX10_noNode_0, sX10_noNode_1, sX10_noNode_2, sX10_noNode_3, sX10_noNode_4, sX10_noNode_7, sX10_noNode_8, sX10_noNode_9, sX10_noNode_10, sX10_noNode_13, sX10_noNode_16, sX10_noNode_17, sX10_noNode_20, sX10_noNode_21, sX10_in_0, sX10_in_1, sX10_in_2, sX10_in_3, sX10_in_6, sX10_in_7, sX10_in_9, sX10_in_10, sX10_in_13, sX10_in_14, sX10_in_17, sX10_in_18, hc, n_l, c_lt, c_gt, i64_nle, w_pos q1, w_top hN q2, n_eq0, not_true_eq_false, not_false_eq_true, Nat.reduceEqDiff, ↓reduceIte]
end
