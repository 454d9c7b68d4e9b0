/-! go: both settings rows stay alike and in their ranges -/
theorem gw_alike {N : Nat} {T : Tb} {p q : Nat → Int32} {s : Nat → Nat} {c : Nat} (hs : ∀ t, t < c → ∃ x, p (s t) = nI x ∧ q (s t) = nI x ∧ T 3 (s t) ≤ x ∧ x ≤ T 4 (s t)) : ∀ (m i : Nat) (f g : Nat → Int32), i + m = c → (∀ n, n < N → ∃ x, f n = nI x ∧ g n = nI x ∧ T 3 n ≤ x ∧ x ≤ T 4 n) → ∀ n, n < N → ∃ x, gw p s m i f n = nI x ∧ gw q s m i g n = nI x ∧ T 3 n ≤ x ∧ x ≤ T 4 n := by
  intro m
  induction m with
  | zero => intro i f g _ h; exact h
  | succ m ih =>
    intro i f g hi h
    refine ih (i + 1) _ _ (by omega) (fun n hn => ?_)
    obtain ⟨x, x1, x2, x3, x4⟩ := hs i (by omega)
    by_cases e : n = s i
    · subst e
      exact ⟨x, by simp [upd, x1], by simp [upd, x2], x3, x4⟩
    · obtain ⟨y, y1, y2, y3, y4⟩ := h n hn
      exact ⟨y, by simp [upd, e, y1], by simp [upd, e, y2], y3, y4⟩
section
variable {I : Nat → Nat → Int32} {L : Nat → Nat → Int64} {J : Nat → Int32} {z : Nat} {N W : Nat} {T V : Tb} {P C : Option Nat}
set_option maxHeartbeats 4000000 in
theorem op_go (A : InvA I L N T W V P C) (hJ : I 1000 = J) (hz : I 1001 0 = nI z) : wp 99 mX9_go 0 [.ref 0, .null, .null, .null] [] (rn I L) (fun v τ => wp 99 mX10_go 0 [.ref 68, .null, .null] [] τ (fun v' τ' => v' = v ∧ InvS J z τ')) := by
  have hw := A.2.2.2.2.2.2.2.1
  cases C with
  | none =>
    obtain ⟨p1, p2⟩ := hw
    have g1 : ((0 : Int32) ≤ -9) = False := by decide +kernel
    simp (disch := first | decide | assumption | omega | exact cat_int | exact cat_ref | exact cat_null | exact Or.inl rfl | exact Or.inr rfl | (refine so_node ?_; omega) | (refine inA_n ?_ ?_ <;> (try simp only [la_2, la_3, la_21, la_22, la_24, la_38, la_40, la_41, la_42, la_43, la_44, la_45, la_46, la_47, la_48, la_50, la_52, la_54, la_55, la_56, la_57, la_58, la_59, la_61, la_63, la_65, la_67, la_69, la_70, la_71, la_72, la_73, la_74, la_75, la_76, la_77, la_78, la_79, la_80, la_81, la_82, la_83, la_84, la_85, la_86, la_87, la_88, la_89, la_90, la_91, la_92, la_93, la_94, la_95]) <;> omega) | (simp (disch := omega) only [u_same1, u_oj, u_ok]; assumption) | (refine so_wish ?_; omega) | (refine so_sheet ?_; omega) | (refine ta_cells ?_; omega) | (refine inA_c ?_ ?_ <;> omega) | (rw [ta_cells] <;> omega)) only [sX9_go_0, sX9_go_1, sX9_go_4, sX9_go_7, sX9_go_10, sX9_go_12, sX9_go_13, sX9_go_14, sX9_go_17, sX9_go_20, sX9_go_21, sX9_go_22, sX9_go_24, sX9_go_25, sX9_go_28, sX9_go_29, sX9_go_32, sX9_go_35, sX9_go_36, sX9_go_37, sX9_go_38, sX9_go_39, sX9_go_42, sX9_go_45, sX9_go_46, sX9_go_47, sX9_go_50, sX9_go_53, sX9_go_54, sX9_go_55, sX9_go_56, sX9_go_59, sX9_go_62, sX9_go_63, sX9_go_66, sX9_go_69, sX9_go_70, sX6_isFound_0, sX6_isFound_1, sX6_isFound_4, sX6_isFound_7, sX6_isFound_8, sX6_isFound_11, sX6_isFound_12, sX10_go_0, sX10_go_1, sX10_go_4, sX10_go_7, sX10_go_9, sX10_go_10, sX10_go_11, sX10_go_14, sX10_go_15, sX10_go_16, sX10_go_18, sX10_go_19, sX10_go_22, sX10_go_23, sX10_go_26, sX10_go_27, sX10_go_30, sX10_go_31, sX10_go_32, sX10_go_33, sX10_go_36, sX10_go_37, sX10_go_40, sX10_go_41, sX10_go_42, sX10_go_43, sX10_go_44, sX10_go_47, sX10_go_50, sX10_go_51, sX10_go_53, sX10_go_56, sX10_go_57, p1, p2, g1, rf_0_0, rf_0_1, rf_0_2, rf_0_3, rf_0_4, rf_0_5, rf_0_6, rf_1_0, rf_1_1, rfa_2, rf_20_0, rf_20_1, rf_23_0, rfa_24, rf_37_1, rf_37_3, rf_37_4, rf_37_5, rf_37_6, rf_37_7, rf_37_8, rf_37_9, rf_37_10, rf_39_0, rf_39_1, rf_49_0, rf_51_0, rf_51_2, rf_51_3, rf_51_4, rf_51_6, rf_53_0, rf_53_1, rfa_59, rf_60_0, rf_62_0, rf_64_0, rf_66_0, rf_68_2, rf_68_3, rf_68_4, rf_68_5, rf_68_6, rf_68_7, rf_68_8, rf_68_9, rf_68_10, rf_68_11, rf_68_12, rf_68_13, rf_68_15, rf_68_16, rf_68_17, rf_68_18, rf_68_19, rf_68_20, rf_68_23, rf_68_27, rf_68_28, rf_68_29, rf_68_30, rf_68_31, rf_68_33, rf_68_35, rf_68_36, la_2, la_3, la_21, la_22, la_24, la_38, la_40, la_41, la_42, la_43, la_44, la_45, la_46, la_47, la_48, la_50, la_52, la_54, la_55, la_56, la_57, la_58, la_59, la_61, la_63, la_65, la_67, la_69, la_70, la_71, la_72, la_73, la_74, la_75, la_76, la_77, la_78, la_79, la_80, la_81, la_82, la_83, la_84, la_85, la_86, la_87, la_88, la_89, la_90, la_91, la_92, la_93, la_94, la_95, rf_sheet, la_cells, u_same1, u_oj, u_ok, v_same1, v_oj, v_ok, n_lt, n_le, n_eq, n_lt0, n_ge0, n_gt0, n_le0, n_eq0, n_cl, nI_add, n_sub, n_l, lt_m1, lt_m2, lt_m3, lt_m4, lt_m9, c_ge, c_le, c_gt, c_lt, c_eq, w_ge, w_lt, w_gt, not_true_eq_false, not_false_eq_true, ↓reduceIte, Nat.reduceAdd, Nat.reduceSub, Nat.reduceEqDiff, Nat.reduceLT, Nat.reduceLeDiff, Nat.add_sub_cancel, true_and, and_true]
    exact inv_keep A hJ hz
  | some c =>
    obtain ⟨p1, p2, p3, p, rfl, p4⟩ := hw
    obtain ⟨A1, A2, A3, A4, A5, A6, A7, A8, A9, A10⟩ := id A
    obtain ⟨b1, b2, b3, b4⟩ := A7
    have h4 : ∀ t : Nat, ∃ q : Nat, t < c → q < p ∧ I 52 t = nI q ∧ I 93 t = nI q := by
      intro t
      by_cases ht : t < c
      · obtain ⟨q, hq⟩ := p4 t ht
        exact ⟨q, fun _ => hq⟩
      · exact ⟨0, fun h => absurd h ht⟩
    obtain ⟨s, hs⟩ := Classical.axiomOfChoice h4
    have hN := A3.1
    have hs16 : ∀ t, t < c → s t < 16 := fun t ht => by have := (hs t ht).1; omega
    have h52 : ∀ t, t < c → I 52 t = nI (s t) := fun t ht => (hs t ht).2.1
    have h93 : ∀ t, t < c → (up2 (va_up I 3 (gw (I 50) s c 0 (I 3))) 51 1 (-9)) 93 t = nI (s t) := fun t ht => by
      rw [up2_ne (by omega), vu_ne (by omega)]; exact (hs t ht).2.2
    have k1 := fun Q => go_loop (d := 98) (L := L) (Q := Q) p3 hs16 c 0 I .null (by omega) h52
    have k2 := fun Q => mgo_loop (d := 99) (L := L) (Q := Q) p3 hs16 c 0 _ (by omega) h93
    have e32 : (up2 (va_up I 3 (gw (I 50) s c 0 (I 3))) 51 1 (-9)) 68 32 = nI c := by
      rw [up2_ne (by omega), vu_ne (by omega)]; exact p2
    simp (disch := first | decide | assumption | omega | exact cat_int | exact cat_ref | exact cat_null | exact Or.inl rfl | exact Or.inr rfl | (refine so_node ?_; omega) | (refine inA_n ?_ ?_ <;> (try simp only [la_2, la_3, la_21, la_22, la_24, la_38, la_40, la_41, la_42, la_43, la_44, la_45, la_46, la_47, la_48, la_50, la_52, la_54, la_55, la_56, la_57, la_58, la_59, la_61, la_63, la_65, la_67, la_69, la_70, la_71, la_72, la_73, la_74, la_75, la_76, la_77, la_78, la_79, la_80, la_81, la_82, la_83, la_84, la_85, la_86, la_87, la_88, la_89, la_90, la_91, la_92, la_93, la_94, la_95]) <;> omega) | (simp (disch := omega) only [u_same1, u_oj, u_ok]; assumption) | (refine so_wish ?_; omega) | (refine so_sheet ?_; omega) | (refine ta_cells ?_; omega) | (refine inA_c ?_ ?_ <;> omega) | (rw [ta_cells] <;> omega)) only [sX9_go_0, sX9_go_1, sX9_go_4, sX9_go_7, sX9_go_10, sX9_go_12, sX9_go_13, sX9_go_14, sX9_go_17, sX9_go_20, sX9_go_21, sX9_go_22, sX9_go_24, sX9_go_25, sX9_go_28, sX9_go_29, sX9_go_32, sX9_go_35, sX9_go_36, sX9_go_37, sX9_go_38, sX9_go_39, sX9_go_42, sX9_go_45, sX9_go_46, sX9_go_47, sX9_go_50, sX9_go_53, sX9_go_54, sX9_go_55, sX9_go_56, sX9_go_59, sX9_go_62, sX9_go_63, sX9_go_66, sX9_go_69, sX9_go_70, sX6_isFound_0, sX6_isFound_1, sX6_isFound_4, sX6_isFound_7, sX6_isFound_8, sX6_isFound_11, sX6_isFound_12, sX10_go_0, sX10_go_1, sX10_go_4, sX10_go_7, sX10_go_9, sX10_go_10, sX10_go_11, sX10_go_14, sX10_go_15, sX10_go_16, sX10_go_18, sX10_go_19, sX10_go_22, sX10_go_23, sX10_go_26, sX10_go_27, sX10_go_30, sX10_go_31, sX10_go_32, sX10_go_33, sX10_go_36, sX10_go_37, sX10_go_40, sX10_go_41, sX10_go_42, sX10_go_43, sX10_go_44, sX10_go_47, sX10_go_50, sX10_go_51, sX10_go_53, sX10_go_56, sX10_go_57, p1, k1, e32, k2, rf_0_0, rf_0_1, rf_0_2, rf_0_3, rf_0_4, rf_0_5, rf_0_6, rf_1_0, rf_1_1, rfa_2, rf_20_0, rf_20_1, rf_23_0, rfa_24, rf_37_1, rf_37_3, rf_37_4, rf_37_5, rf_37_6, rf_37_7, rf_37_8, rf_37_9, rf_37_10, rf_39_0, rf_39_1, rf_49_0, rf_51_0, rf_51_2, rf_51_3, rf_51_4, rf_51_6, rf_53_0, rf_53_1, rfa_59, rf_60_0, rf_62_0, rf_64_0, rf_66_0, rf_68_2, rf_68_3, rf_68_4, rf_68_5, rf_68_6, rf_68_7, rf_68_8, rf_68_9, rf_68_10, rf_68_11, rf_68_12, rf_68_13, rf_68_15, rf_68_16, rf_68_17, rf_68_18, rf_68_19, rf_68_20, rf_68_23, rf_68_27, rf_68_28, rf_68_29, rf_68_30, rf_68_31, rf_68_33, rf_68_35, rf_68_36, la_2, la_3, la_21, la_22, la_24, la_38, la_40, la_41, la_42, la_43, la_44, la_45, la_46, la_47, la_48, la_50, la_52, la_54, la_55, la_56, la_57, la_58, la_59, la_61, la_63, la_65, la_67, la_69, la_70, la_71, la_72, la_73, la_74, la_75, la_76, la_77, la_78, la_79, la_80, la_81, la_82, la_83, la_84, la_85, la_86, la_87, la_88, la_89, la_90, la_91, la_92, la_93, la_94, la_95, rf_sheet, la_cells, u_same1, u_oj, u_ok, v_same1, v_oj, v_ok, n_lt, n_le, n_eq, n_lt0, n_ge0, n_gt0, n_le0, n_eq0, n_cl, nI_add, n_sub, n_l, lt_m1, lt_m2, lt_m3, lt_m4, lt_m9, c_ge, c_le, c_gt, c_lt, c_eq, w_ge, w_lt, w_gt, not_true_eq_false, not_false_eq_true, ↓reduceIte, Nat.reduceAdd, Nat.reduceSub, Nat.reduceEqDiff, Nat.reduceLT, Nat.reduceLeDiff, Nat.add_sub_cancel, true_and, and_true]
    rw [up2_ne (k := 51) (q := 74) (by omega), vu_ne (k := 3) (q := 74) (by omega), up2_ne (k := 51) (q := 87) (by omega), vu_ne (k := 3) (q := 87) (by omega)]
    generalize hg1 : gw (I 50) s c 0 (I 3) = f
    generalize hg2 : gw (I 87) s c 0 (I 74) = g
    have hfg : ∀ n, n < N → ∃ x, f n = nI x ∧ g n = nI x ∧ T 3 n ≤ x ∧ x ≤ T 4 n := by
      rw [← hg1, ← hg2]
      refine gw_alike (c := c) (fun t ht => ?_) c 0 _ _ (by omega) (fun n hn => ?_)
      · exact b4 (s t) (hs t ht).1
      · have a1 := A1.2.1 n hn
        have a2 := A2.2 n hn
        have a3 := A3.2 n hn
        exact ⟨T 9 n, a1.2.2.2.2.2.2.2.2.2, a2.2.2.2.2.2.1, a3.2.2.2.2.2.2.2.2.2.1, a3.2.2.2.2.2.2.2.2.2.2⟩
    have h9 : ∀ n : Nat, ∃ x : Nat, n < N → f n = nI x ∧ g n = nI x ∧ T 3 n ≤ x ∧ x ≤ T 4 n := by
      intro n
      by_cases hn : n < N
      · obtain ⟨x, hx⟩ := hfg n hn
        exact ⟨x, fun _ => hx⟩
      · exact ⟨0, fun h => absurd h hn⟩
    obtain ⟨t9, h9⟩ := Classical.axiomOfChoice h9
    have row : ∀ q, q ≠ 3 → q ≠ 51 → q ≠ 68 → q ≠ 74 → up2 (va_up (up2 (va_up I 3 f) 51 1 (-9)) 74 g) 68 32 (-9) q = I q := fun q q1 q2 q3 q4 => by
      rw [up2_ne q3, vu_ne q4, up2_ne q2, vu_ne q1]
    have r3 : up2 (va_up (up2 (va_up I 3 f) 51 1 (-9)) 74 g) 68 32 (-9) 3 = f := by
      rw [up2_ne (by omega), vu_ne (by omega), up2_ne (by omega), vu_eq]
    have r74 : up2 (va_up (up2 (va_up I 3 f) 51 1 (-9)) 74 g) 68 32 (-9) 74 = g := by
      rw [up2_ne (by omega), vu_eq]
    have r68 : ∀ j, j ≠ 32 → up2 (va_up (up2 (va_up I 3 f) 51 1 (-9)) 74 g) 68 32 (-9) 68 j = I 68 j := fun j hj => by
      rw [u_oj hj, vu_ne (by omega), up2_ne (by omega), vu_ne (by omega)]
    have r51 : up2 (va_up (up2 (va_up I 3 f) 51 1 (-9)) 74 g) 68 32 (-9) 51 1 = -9 := by
      rw [u_ok (by omega), vu_ne (by omega), u_same1]
    have r32 : up2 (va_up (up2 (va_up I 3 f) 51 1 (-9)) 74 g) 68 32 (-9) 68 32 = -9 := u_same1
    generalize up2 (va_up (up2 (va_up I 3 f) 51 1 (-9)) 74 g) 68 32 (-9) = I' at row r3 r74 r68 r51 r32 ⊢
    refine ⟨I', L, rfl, ⟨N, fun c n => if c = 9 then t9 n else T c n, W, V, some p, none, ?_, ?_, ?_, ?_, ?_, A6, ?_, ⟨r51, r32⟩, ?_, ?_⟩, by rw [row 1000 (by omega) (by omega) (by omega) (by omega)]; exact hJ, by rw [row 1001 (by omega) (by omega) (by omega) (by omega)]; exact hz⟩
    · refine ⟨by rw [row 1 (by omega) (by omega) (by omega) (by omega)]; exact A1.1, fun n hn => ?_, fun n h1 h2 => ?_⟩
      · rw [row (4 + n) (by omega) (by omega) (by omega) (by omega), r3]
        have a1 := A1.2.1 n hn
        simp only [Nat.reduceEqDiff, ↓reduceIte]
        exact ⟨a1.1, a1.2.1, a1.2.2.1, a1.2.2.2.1, a1.2.2.2.2.1, a1.2.2.2.2.2.1, a1.2.2.2.2.2.2.1, a1.2.2.2.2.2.2.2.1, a1.2.2.2.2.2.2.2.2.1, (h9 n hn).1⟩
      · rw [row (4 + n) (by omega) (by omega) (by omega) (by omega)]
        exact A1.2.2 n h1 h2
    · refine ⟨by rw [r68 1 (by omega)]; exact A2.1, fun n hn => ?_⟩
      rw [row 69 (by omega) (by omega) (by omega) (by omega), row 70 (by omega) (by omega) (by omega) (by omega), row 71 (by omega) (by omega) (by omega) (by omega), row 72 (by omega) (by omega) (by omega) (by omega), row 73 (by omega) (by omega) (by omega) (by omega), row 75 (by omega) (by omega) (by omega) (by omega), r74]
      have a2 := A2.2 n hn
      simp only [Nat.reduceEqDiff, ↓reduceIte]
      exact ⟨a2.1, a2.2.1, a2.2.2.1, a2.2.2.2.1, a2.2.2.2.2.1, (h9 n hn).2.1, a2.2.2.2.2.2.2⟩
    · refine ⟨A3.1, fun n hn => ?_⟩
      have a3 := A3.2 n hn
      simp only [Nat.reduceEqDiff, ↓reduceIte]
      exact ⟨a3.1, a3.2.1, a3.2.2.1, a3.2.2.2.1, a3.2.2.2.2.1, a3.2.2.2.2.2.1, a3.2.2.2.2.2.2.1, a3.2.2.2.2.2.2.2.1, a3.2.2.2.2.2.2.2.2.1, (h9 n hn).2.2.1, (h9 n hn).2.2.2⟩
    · exact wishC_cg (fun q hq => row q (by omega) (by omega) (by omega) (by omega)) A6.1 A4
    · exact wishM_cg (r68 14 (by omega)) (fun q hq => row q (by omega) (by omega) (by omega) (by omega)) A5
    · refine ⟨by rw [row 49 (by omega) (by omega) (by omega) (by omega)]; exact b1, by rw [r68 22 (by omega)]; exact b2, b3, fun n hn => ?_⟩
      rw [row 50 (by omega) (by omega) (by omega) (by omega), row 87 (by omega) (by omega) (by omega) (by omega)]
      simp only [Nat.reduceEqDiff, ↓reduceIte]
      exact b4 n hn
    · exact sheetR_cg (fun q hq => row q (by omega) (by omega) (by omega) (by omega)) A9
    · exact restR_cg (by rw [row 0 (by omega) (by omega) (by omega) (by omega)]) (by rw [row 0 (by omega) (by omega) (by omega) (by omega)]) (r68 37 (by omega)) (r68 0 (by omega)) (by rw [row 37 (by omega) (by omega) (by omega) (by omega)]) (r68 21 (by omega)) (row 45 (by omega) (by omega) (by omega) (by omega)) (row 46 (by omega) (by omega) (by omega) (by omega)) (row 47 (by omega) (by omega) (by omega) (by omega)) rfl A10
end
