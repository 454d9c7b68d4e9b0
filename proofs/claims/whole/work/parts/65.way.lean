/-! the class's way -/
def rwS (p s : Nat → Nat) (D : Nat) : Nat → Nat := fun n => if p n ≠ s n ∧ D.testBit (co p s n) = true then p n else s n
section
variable {p s : Nat → Nat} {n m N D : Nat}
theorem co_mono (h : n ≤ m) : co p s n ≤ co p s m := by
  induction h with
  | refl => exact Nat.le_refl _
  | step h ih => refine Nat.le_trans ih ?_; rw [co]; omega
theorem co_lt (h : n < m) (hn : p n ≠ s n) : co p s n < co p s m := by
  have h1 : co p s (n + 1) ≤ co p s m := co_mono h
  rw [co, if_neg hn] at h1
  omega
theorem co_inj (hn : p n ≠ s n) (hm : p m ≠ s m) (h : co p s n = co p s m) : n = m := by
  by_cases e : n < m
  · have := co_lt e hn; omega
  · by_cases e2 : m < n
    · have := co_lt e2 hm; omega
    · omega
theorem co_sur : ∀ (N j : Nat), j < co p s N → ∃ n, n < N ∧ p n ≠ s n ∧ co p s n = j := by
  intro N
  induction N with
  | zero => intro j h; exact absurd h (Nat.not_lt_zero j)
  | succ N ih =>
    intro j h
    rw [co] at h
    by_cases e : p N = s N
    · rw [if_pos e] at h
      obtain ⟨n, h1, h2, h3⟩ := ih j (by omega)
      exact ⟨n, by omega, h2, h3⟩
    · rw [if_neg e] at h
      by_cases e2 : j = co p s N
      · exact ⟨N, by omega, e, e2.symm⟩
      · obtain ⟨n, h1, h2, h3⟩ := ih j (by omega)
        exact ⟨n, by omega, h2, h3⟩
theorem rwS_0 : rwS p s 0 = s := by
  funext n
  unfold rwS
  rw [if_neg (by simp)]
theorem rwS_eq (hn : p n ≠ s n) : rwS p s (D ||| 2 ^ co p s n) n = p n := by
  unfold rwS
  rw [if_pos ⟨hn, by rw [tb_or]; simp⟩]
theorem rwS_ne (hn : p n ≠ s n) (h : m ≠ n) : rwS p s (D ||| 2 ^ co p s n) m = rwS p s D m := by
  unfold rwS
  by_cases e : p m = s m
  · rw [if_neg (fun q => q.1 e), if_neg (fun q => q.1 e)]
  · have : (D ||| 2 ^ co p s n).testBit (co p s m) = D.testBit (co p s m) := by
      rw [tb_or]
      have : decide (co p s n = co p s m) = false := by
        simp
        intro q
        exact h (co_inj e hn q.symm)
      rw [this, Bool.or_false]
    rw [this]
theorem rwS_W {T : Tb} (h1 : rowW N T p) (h2 : rowW N T s) : rowW N T (rwS p s D) := by
  intro n hn
  unfold rwS
  by_cases e : p n ≠ s n ∧ D.testBit (co p s n) = true
  · rw [if_pos e]; exact h1 n hn
  · rw [if_neg e]; exact h2 n hn
end
def okS (N : Nat) (T : Tb) (p : Nat → Nat) (D : Nat) : Bool := decide (D = 0) || sdB T (rwS p (T 9) D) N
def wayH (N c : Nat) (T : Tb) (p o : Nat → Nat) : Prop := nodeW N T ∧ c ≤ 12 ∧ c = co p (T 9) N ∧ rowW N T p ∧ ∀ j, j < c → o j < N ∧ p (o j) ≠ T 9 (o j) ∧ co p (T 9) (o j) = j
def wayI (I : Nat → Nat → Int32) (N c : Nat) (T : Tb) (p o : Nat → Nat) (D : Nat) : Prop := nodeC I N T ∧ I 51 5 = nI c ∧ (∀ n, n < N → I 50 n = nI (p n)) ∧ (∀ j, j < c → I 57 j = nI (o j)) ∧ ∀ n, n < N → I 56 n = nI (rwS p (T 9) D n)
/-- what is marked as dead is dead -/
def DS (L : Nat → Nat → Int64) (c : Nat) (ok : Nat → Bool) : Prop := ∀ D, D < 2 ^ c → db (L 58 (D / 64)) (D % 64) = true → ld c ok D = false
def frW (L L' : Nat → Nat → Int64) : Prop := ∀ q, q ≠ 54 → q ≠ 55 → q ≠ 58 → L' q = L q
theorem two12 {c D : Nat} (hc : c ≤ 12) (h : D < 2 ^ c) : D < 4096 := by
  have h2 : 2 ^ c ≤ 2 ^ 12 := Nat.pow_le_pow_right (by omega) hc
  omega
theorem va_self {I : Nat → Nat → Int32} {r : Nat} : va_up I r (I r) = I := by
  funext q
  unfold va_up
  by_cases e : q = r
  · rw [if_pos e, e]
  · rw [if_neg e]
theorem va_of {I I' : Nat → Nat → Int32} {r : Nat} (h : ∀ q, q ≠ r → I' q = I q) : I' = va_up I r (I' r) := by
  funext q
  unfold va_up
  by_cases e : q = r
  · rw [if_pos e, e]
  · rw [if_neg e]; exact h q e
section
variable {I : Nat → Nat → Int32} {L L' : Nat → Nat → Int64} {N c D i : Nat} {T : Tb} {p o : Nat → Nat} {Q : Value → Sg → Prop} {d : Nat}
theorem wayI_cg {I' : Nat → Nat → Int32} (w : nodeW N T) (h : ∀ q, q ≠ 52 → I' q = I q) (a : wayI I N c T p o D) : wayI I' N c T p o D := by
  obtain ⟨a1, a2, a3, a4, a5⟩ := a
  refine ⟨nodeC_cg (fun q hq => h q (by omega)) w a1, by rw [h 51 (by omega)]; exact a2, fun n hn => by rw [h 50 (by omega)]; exact a3 n hn, fun j hj => by rw [h 57 (by omega)]; exact a4 j hj, fun n hn => by rw [h 56 (by omega)]; exact a5 n hn⟩
theorem ry_DS {f : Nat → Rp} {k : Nat} {ok : Nat → Bool} (h : DS L c ok) : DS (ry L 54 55 f 0 k) c ok := by
  intro D hD
  rw [ry_q (by omega) (by omega)]
  exact h D hD
theorem ry_fr {f : Nat → Rp} {k : Nat} : frW L (ry L 54 55 f 0 k) := fun q h1 h2 _ => ry_q h1 h2
theorem fr_trans {L2 : Nat → Nat → Int64} (h1 : frW L L') (h2 : frW L' L2) : frW L L2 := fun q a b c => by rw [h2 q a b c, h1 q a b c]
theorem fr_refl : frW L L := fun _ _ _ _ => rfl
theorem set_DS {ok : Nat → Bool} (h : DS L c ok) (hl : ld c ok D = false) : DS (up2L L 58 (D / 64) (L 58 (D / 64) ||| (lN 1 <<< (lN (D % 64) &&& 63)))) c ok := by
  intro E hE
  by_cases e : E / 64 = D / 64
  · rw [e, v_same1, db_set _ (Nat.mod_lt _ (by omega)) (Nat.mod_lt _ (by omega))]
    intro q
    by_cases e2 : D % 64 = E % 64
    · have : E = D := by omega
      rw [this]; exact hl
    · simp [e2] at q
      rw [← e] at q
      exact h E hE q
  · rw [v_oj e]
    exact h E hE
theorem set_fr {x : Int64} {j : Nat} : frW L (up2L L 58 j x) := fun q _ _ h => by
  funext t
  exact v_ok h
set_option maxHeartbeats 2000000 in
theorem dead_tail {a1 a2 a4 a5 : Value} (hD : D < 4096) : wp d mX6_reaches 97 [.ref 51, a1, a2, .int (nI D), a4, a5] [] (rn I L) Q = Q (.int (nI 0)) (rn I (up2L L 58 (D / 64) (L 58 (D / 64) ||| (lN 1 <<< (lN (D % 64) &&& 63))))) := by
  have h1 : D / 64 < 64 := by omega
  simp (disch := first | decide | assumption | omega | exact cat_int | exact cat_ref | exact cat_null | exact Or.inl rfl | exact Or.inr rfl | (refine so_node ?_; omega) | (refine inA_n ?_ ?_ <;> (try simp only [la_2, la_3, la_21, la_22, la_24, la_38, la_40, la_41, la_42, la_43, la_44, la_45, la_46, la_47, la_48, la_50, la_52, la_54, la_55, la_56, la_57, la_58, la_59, la_61, la_63, la_65, la_67, la_69, la_70, la_71, la_72, la_73, la_74, la_75, la_76, la_77, la_78, la_79, la_80, la_81, la_82, la_83, la_84, la_85, la_86, la_87, la_88, la_89, la_90, la_91, la_92, la_93, la_94, la_95]) <;> omega) | (simp (disch := omega) only [u_same1, u_oj, u_ok]; assumption) | (refine so_wish ?_; omega) | (refine so_sheet ?_; omega) | (refine ta_cells ?_; omega) | (refine inA_c ?_ ?_ <;> omega) | (rw [ta_cells] <;> omega)) only [sX6_reaches_0, sX6_reaches_1, sX6_reaches_4, sX6_reaches_5, sX6_reaches_7, sX6_reaches_8, sX6_reaches_9, sX6_reaches_10, sX6_reaches_12, sX6_reaches_13, sX6_reaches_14, sX6_reaches_15, sX6_reaches_16, sX6_reaches_17, sX6_reaches_18, sX6_reaches_21, sX6_reaches_22, sX6_reaches_23, sX6_reaches_25, sX6_reaches_28, sX6_reaches_29, sX6_reaches_32, sX6_reaches_33, sX6_reaches_34, sX6_reaches_37, sX6_reaches_40, sX6_reaches_43, sX6_reaches_45, sX6_reaches_46, sX6_reaches_49, sX6_reaches_52, sX6_reaches_53, sX6_reaches_54, sX6_reaches_55, sX6_reaches_57, sX6_reaches_59, sX6_reaches_60, sX6_reaches_63, sX6_reaches_66, sX6_reaches_67, sX6_reaches_69, sX6_reaches_70, sX6_reaches_71, sX6_reaches_72, sX6_reaches_75, sX6_reaches_76, sX6_reaches_77, sX6_reaches_78, sX6_reaches_79, sX6_reaches_81, sX6_reaches_83, sX6_reaches_86, sX6_reaches_89, sX6_reaches_90, sX6_reaches_91, sX6_reaches_94, sX6_reaches_97, sX6_reaches_98, sX6_reaches_101, sX6_reaches_102, sX6_reaches_104, sX6_reaches_105, sX6_reaches_106, sX6_reaches_107, sX6_reaches_108, sX6_reaches_109, sX6_reaches_111, sX6_reaches_112, sX6_reaches_113, sX6_reaches_114, sX6_reaches_115, sX6_reaches_116, b_shr6, b_and63, rf_0_0, rf_0_1, rf_0_2, rf_0_3, rf_0_4, rf_0_5, rf_0_6, rf_1_0, rf_1_1, rfa_2, rf_20_0, rf_20_1, rf_23_0, rfa_24, rf_37_1, rf_37_3, rf_37_4, rf_37_5, rf_37_6, rf_37_7, rf_37_8, rf_37_9, rf_37_10, rf_39_0, rf_39_1, rf_49_0, rf_51_0, rf_51_2, rf_51_3, rf_51_4, rf_51_6, rf_53_0, rf_53_1, rfa_59, rf_60_0, rf_62_0, rf_64_0, rf_66_0, rf_68_2, rf_68_3, rf_68_4, rf_68_5, rf_68_6, rf_68_7, rf_68_8, rf_68_9, rf_68_10, rf_68_11, rf_68_12, rf_68_13, rf_68_15, rf_68_16, rf_68_17, rf_68_18, rf_68_19, rf_68_20, rf_68_23, rf_68_27, rf_68_28, rf_68_29, rf_68_30, rf_68_31, rf_68_33, rf_68_35, rf_68_36, la_2, la_3, la_21, la_22, la_24, la_38, la_40, la_41, la_42, la_43, la_44, la_45, la_46, la_47, la_48, la_50, la_52, la_54, la_55, la_56, la_57, la_58, la_59, la_61, la_63, la_65, la_67, la_69, la_70, la_71, la_72, la_73, la_74, la_75, la_76, la_77, la_78, la_79, la_80, la_81, la_82, la_83, la_84, la_85, la_86, la_87, la_88, la_89, la_90, la_91, la_92, la_93, la_94, la_95, rf_sheet, la_cells, u_same1, u_oj, u_ok, v_same1, v_oj, v_ok, n_lt, n_le, n_eq, n_lt0, n_ge0, n_gt0, n_le0, n_eq0, n_cl, nI_add, n_sub, n_l, lt_m1, lt_m2, lt_m3, lt_m4, lt_m9, c_ge, c_le, c_gt, c_lt, c_eq, w_ge, w_lt, w_gt, not_true_eq_false, not_false_eq_true, ↓reduceIte, Nat.reduceAdd, Nat.reduceSub, Nat.reduceEqDiff, Nat.reduceLT, Nat.reduceLeDiff, Nat.add_sub_cancel, true_and, and_true]
set_option maxHeartbeats 4000000 in
theorem reach_head (H : wayH N c T p o) (hi : bc c D = i) (hD : D < 2 ^ c) (A : wayI I N c T p o D) (hS : DS L c (okS N T p))
    (h0 : ld c (okS N T p) D = false → ∀ L1, DS L1 c (okS N T p) → frW L L1 → Q (.int (nI 0)) (rn I L1))
    (h1 : okS N T p D = true → ∀ L1, DS L1 c (okS N T p) → frW L L1 → wp (d + 4) mX6_reaches 43 [.ref 51, .ref 1, .ref 50, .int (nI D), .int (nI i), .null] [] (rn I L1) Q) :
    wp (d + 4) mX6_reaches 0 [.ref 51, .ref 1, .ref 50, .int (nI D), .int (nI i), .null] [] (rn I L) Q := by
  obtain ⟨w, hc, hcc, hp, ho⟩ := H
  have hD4 := two12 hc hD
  have hi16 : i ≤ 12 := by have := bc_le D c; omega
  have hq : D / 64 < 64 := by omega
  cases hd : db (L 58 (D / 64)) (D % 64) with
  | true =>
    have key := h0 (hS D hD hd) L hS fr_refl
    have hdd := dd_eq (L 58 (D / 64)) (Nat.mod_lt D (by omega : 0 < 64))
    rw [hd] at hdd
    simp (disch := first | decide | assumption | omega | exact cat_int | exact cat_ref | exact cat_null | exact Or.inl rfl | exact Or.inr rfl | (refine so_node ?_; omega) | (refine inA_n ?_ ?_ <;> (try simp only [la_2, la_3, la_21, la_22, la_24, la_38, la_40, la_41, la_42, la_43, la_44, la_45, la_46, la_47, la_48, la_50, la_52, la_54, la_55, la_56, la_57, la_58, la_59, la_61, la_63, la_65, la_67, la_69, la_70, la_71, la_72, la_73, la_74, la_75, la_76, la_77, la_78, la_79, la_80, la_81, la_82, la_83, la_84, la_85, la_86, la_87, la_88, la_89, la_90, la_91, la_92, la_93, la_94, la_95]) <;> omega) | (simp (disch := omega) only [u_same1, u_oj, u_ok]; assumption) | (refine so_wish ?_; omega) | (refine so_sheet ?_; omega) | (refine ta_cells ?_; omega) | (refine inA_c ?_ ?_ <;> omega) | (rw [ta_cells] <;> omega)) only [sX6_reaches_0, sX6_reaches_1, sX6_reaches_4, sX6_reaches_5, sX6_reaches_7, sX6_reaches_8, sX6_reaches_9, sX6_reaches_10, sX6_reaches_12, sX6_reaches_13, sX6_reaches_14, sX6_reaches_15, sX6_reaches_16, sX6_reaches_17, sX6_reaches_18, sX6_reaches_21, sX6_reaches_22, sX6_reaches_23, sX6_reaches_25, sX6_reaches_28, sX6_reaches_29, sX6_reaches_32, sX6_reaches_33, sX6_reaches_34, sX6_reaches_37, sX6_reaches_40, sX6_reaches_45, sX6_reaches_46, sX6_reaches_49, sX6_reaches_52, sX6_reaches_53, sX6_reaches_54, sX6_reaches_55, sX6_reaches_59, sX6_reaches_60, sX6_reaches_63, sX6_reaches_66, sX6_reaches_67, sX6_reaches_69, sX6_reaches_70, sX6_reaches_71, sX6_reaches_72, sX6_reaches_75, sX6_reaches_76, sX6_reaches_77, sX6_reaches_78, sX6_reaches_79, sX6_reaches_81, sX6_reaches_83, sX6_reaches_86, sX6_reaches_89, sX6_reaches_90, sX6_reaches_91, sX6_reaches_94, sX6_reaches_97, sX6_reaches_98, sX6_reaches_101, sX6_reaches_102, sX6_reaches_104, sX6_reaches_105, sX6_reaches_106, sX6_reaches_107, sX6_reaches_108, sX6_reaches_109, sX6_reaches_111, sX6_reaches_112, sX6_reaches_113, sX6_reaches_114, sX6_reaches_115, sX6_reaches_116, b_shr6, b_and63, hdd, Bool.true_eq_false, key, rf_0_0, rf_0_1, rf_0_2, rf_0_3, rf_0_4, rf_0_5, rf_0_6, rf_1_0, rf_1_1, rfa_2, rf_20_0, rf_20_1, rf_23_0, rfa_24, rf_37_1, rf_37_3, rf_37_4, rf_37_5, rf_37_6, rf_37_7, rf_37_8, rf_37_9, rf_37_10, rf_39_0, rf_39_1, rf_49_0, rf_51_0, rf_51_2, rf_51_3, rf_51_4, rf_51_6, rf_53_0, rf_53_1, rfa_59, rf_60_0, rf_62_0, rf_64_0, rf_66_0, rf_68_2, rf_68_3, rf_68_4, rf_68_5, rf_68_6, rf_68_7, rf_68_8, rf_68_9, rf_68_10, rf_68_11, rf_68_12, rf_68_13, rf_68_15, rf_68_16, rf_68_17, rf_68_18, rf_68_19, rf_68_20, rf_68_23, rf_68_27, rf_68_28, rf_68_29, rf_68_30, rf_68_31, rf_68_33, rf_68_35, rf_68_36, la_2, la_3, la_21, la_22, la_24, la_38, la_40, la_41, la_42, la_43, la_44, la_45, la_46, la_47, la_48, la_50, la_52, la_54, la_55, la_56, la_57, la_58, la_59, la_61, la_63, la_65, la_67, la_69, la_70, la_71, la_72, la_73, la_74, la_75, la_76, la_77, la_78, la_79, la_80, la_81, la_82, la_83, la_84, la_85, la_86, la_87, la_88, la_89, la_90, la_91, la_92, la_93, la_94, la_95, rf_sheet, la_cells, u_same1, u_oj, u_ok, v_same1, v_oj, v_ok, n_lt, n_le, n_eq, n_lt0, n_ge0, n_gt0, n_le0, n_eq0, n_cl, nI_add, n_sub, n_l, lt_m1, lt_m2, lt_m3, lt_m4, lt_m9, c_ge, c_le, c_gt, c_lt, c_eq, w_ge, w_lt, w_gt, not_true_eq_false, not_false_eq_true, ↓reduceIte, Nat.reduceAdd, Nat.reduceSub, Nat.reduceEqDiff, Nat.reduceLT, Nat.reduceLeDiff, Nat.add_sub_cancel, true_and, and_true]
  | false =>
    have hdd := dd_eq (L 58 (D / 64)) (Nat.mod_lt D (by omega : 0 < 64))
    rw [hd] at hdd
    by_cases e : i = 0
    · have e0 : D = 0 := bc_eq0 hD (by omega)
      have key := h1 (by unfold okS; simp [e0]) L hS fr_refl
      simp (disch := first | decide | assumption | omega | exact cat_int | exact cat_ref | exact cat_null | exact Or.inl rfl | exact Or.inr rfl | (refine so_node ?_; omega) | (refine inA_n ?_ ?_ <;> (try simp only [la_2, la_3, la_21, la_22, la_24, la_38, la_40, la_41, la_42, la_43, la_44, la_45, la_46, la_47, la_48, la_50, la_52, la_54, la_55, la_56, la_57, la_58, la_59, la_61, la_63, la_65, la_67, la_69, la_70, la_71, la_72, la_73, la_74, la_75, la_76, la_77, la_78, la_79, la_80, la_81, la_82, la_83, la_84, la_85, la_86, la_87, la_88, la_89, la_90, la_91, la_92, la_93, la_94, la_95]) <;> omega) | (simp (disch := omega) only [u_same1, u_oj, u_ok]; assumption) | (refine so_wish ?_; omega) | (refine so_sheet ?_; omega) | (refine ta_cells ?_; omega) | (refine inA_c ?_ ?_ <;> omega) | (rw [ta_cells] <;> omega)) only [sX6_reaches_0, sX6_reaches_1, sX6_reaches_4, sX6_reaches_5, sX6_reaches_7, sX6_reaches_8, sX6_reaches_9, sX6_reaches_10, sX6_reaches_12, sX6_reaches_13, sX6_reaches_14, sX6_reaches_15, sX6_reaches_16, sX6_reaches_17, sX6_reaches_18, sX6_reaches_21, sX6_reaches_22, sX6_reaches_23, sX6_reaches_25, sX6_reaches_28, sX6_reaches_29, sX6_reaches_32, sX6_reaches_33, sX6_reaches_34, sX6_reaches_37, sX6_reaches_40, sX6_reaches_45, sX6_reaches_46, sX6_reaches_49, sX6_reaches_52, sX6_reaches_53, sX6_reaches_54, sX6_reaches_55, sX6_reaches_59, sX6_reaches_60, sX6_reaches_63, sX6_reaches_66, sX6_reaches_67, sX6_reaches_69, sX6_reaches_70, sX6_reaches_71, sX6_reaches_72, sX6_reaches_75, sX6_reaches_76, sX6_reaches_77, sX6_reaches_78, sX6_reaches_79, sX6_reaches_81, sX6_reaches_83, sX6_reaches_86, sX6_reaches_89, sX6_reaches_90, sX6_reaches_91, sX6_reaches_94, sX6_reaches_97, sX6_reaches_98, sX6_reaches_101, sX6_reaches_102, sX6_reaches_104, sX6_reaches_105, sX6_reaches_106, sX6_reaches_107, sX6_reaches_108, sX6_reaches_109, sX6_reaches_111, sX6_reaches_112, sX6_reaches_113, sX6_reaches_114, sX6_reaches_115, sX6_reaches_116, b_shr6, b_and63, hdd, e, rf_0_0, rf_0_1, rf_0_2, rf_0_3, rf_0_4, rf_0_5, rf_0_6, rf_1_0, rf_1_1, rfa_2, rf_20_0, rf_20_1, rf_23_0, rfa_24, rf_37_1, rf_37_3, rf_37_4, rf_37_5, rf_37_6, rf_37_7, rf_37_8, rf_37_9, rf_37_10, rf_39_0, rf_39_1, rf_49_0, rf_51_0, rf_51_2, rf_51_3, rf_51_4, rf_51_6, rf_53_0, rf_53_1, rfa_59, rf_60_0, rf_62_0, rf_64_0, rf_66_0, rf_68_2, rf_68_3, rf_68_4, rf_68_5, rf_68_6, rf_68_7, rf_68_8, rf_68_9, rf_68_10, rf_68_11, rf_68_12, rf_68_13, rf_68_15, rf_68_16, rf_68_17, rf_68_18, rf_68_19, rf_68_20, rf_68_23, rf_68_27, rf_68_28, rf_68_29, rf_68_30, rf_68_31, rf_68_33, rf_68_35, rf_68_36, la_2, la_3, la_21, la_22, la_24, la_38, la_40, la_41, la_42, la_43, la_44, la_45, la_46, la_47, la_48, la_50, la_52, la_54, la_55, la_56, la_57, la_58, la_59, la_61, la_63, la_65, la_67, la_69, la_70, la_71, la_72, la_73, la_74, la_75, la_76, la_77, la_78, la_79, la_80, la_81, la_82, la_83, la_84, la_85, la_86, la_87, la_88, la_89, la_90, la_91, la_92, la_93, la_94, la_95, rf_sheet, la_cells, u_same1, u_oj, u_ok, v_same1, v_oj, v_ok, n_lt, n_le, n_eq, n_lt0, n_ge0, n_gt0, n_le0, n_eq0, n_cl, nI_add, n_sub, n_l, lt_m1, lt_m2, lt_m3, lt_m4, lt_m9, c_ge, c_le, c_gt, c_lt, c_eq, w_ge, w_lt, w_gt, not_true_eq_false, not_false_eq_true, ↓reduceIte, Nat.reduceAdd, Nat.reduceSub, Nat.reduceEqDiff, Nat.reduceLT, Nat.reduceLeDiff, Nat.add_sub_cancel, true_and, and_true]
      rw [e] at key
      exact key
    · have e0 : ¬ D = 0 := fun q => e (by rw [← hi, q, bc_0])
      have eo : okS N T p D = sdB T (rwS p (T 9) D) N := by unfold okS; simp [e0]
      simp (disch := first | decide | assumption | omega | exact cat_int | exact cat_ref | exact cat_null | exact Or.inl rfl | exact Or.inr rfl | (refine so_node ?_; omega) | (refine inA_n ?_ ?_ <;> (try simp only [la_2, la_3, la_21, la_22, la_24, la_38, la_40, la_41, la_42, la_43, la_44, la_45, la_46, la_47, la_48, la_50, la_52, la_54, la_55, la_56, la_57, la_58, la_59, la_61, la_63, la_65, la_67, la_69, la_70, la_71, la_72, la_73, la_74, la_75, la_76, la_77, la_78, la_79, la_80, la_81, la_82, la_83, la_84, la_85, la_86, la_87, la_88, la_89, la_90, la_91, la_92, la_93, la_94, la_95]) <;> omega) | (simp (disch := omega) only [u_same1, u_oj, u_ok]; assumption) | (refine so_wish ?_; omega) | (refine so_sheet ?_; omega) | (refine ta_cells ?_; omega) | (refine inA_c ?_ ?_ <;> omega) | (rw [ta_cells] <;> omega)) only [sX6_reaches_0, sX6_reaches_1, sX6_reaches_4, sX6_reaches_5, sX6_reaches_7, sX6_reaches_8, sX6_reaches_9, sX6_reaches_10, sX6_reaches_12, sX6_reaches_13, sX6_reaches_14, sX6_reaches_15, sX6_reaches_16, sX6_reaches_17, sX6_reaches_18, sX6_reaches_21, sX6_reaches_22, sX6_reaches_23, sX6_reaches_25, sX6_reaches_28, sX6_reaches_29, sX6_reaches_32, sX6_reaches_33, sX6_reaches_34, sX6_reaches_37, sX6_reaches_40, sX6_reaches_45, sX6_reaches_46, sX6_reaches_49, sX6_reaches_52, sX6_reaches_53, sX6_reaches_54, sX6_reaches_55, sX6_reaches_59, sX6_reaches_60, sX6_reaches_63, sX6_reaches_66, sX6_reaches_67, sX6_reaches_69, sX6_reaches_70, sX6_reaches_71, sX6_reaches_72, sX6_reaches_75, sX6_reaches_76, sX6_reaches_77, sX6_reaches_78, sX6_reaches_79, sX6_reaches_81, sX6_reaches_83, sX6_reaches_86, sX6_reaches_89, sX6_reaches_90, sX6_reaches_91, sX6_reaches_94, sX6_reaches_97, sX6_reaches_98, sX6_reaches_101, sX6_reaches_102, sX6_reaches_104, sX6_reaches_105, sX6_reaches_106, sX6_reaches_107, sX6_reaches_108, sX6_reaches_109, sX6_reaches_111, sX6_reaches_112, sX6_reaches_113, sX6_reaches_114, sX6_reaches_115, sX6_reaches_116, b_shr6, b_and63, hdd, e, rf_0_0, rf_0_1, rf_0_2, rf_0_3, rf_0_4, rf_0_5, rf_0_6, rf_1_0, rf_1_1, rfa_2, rf_20_0, rf_20_1, rf_23_0, rfa_24, rf_37_1, rf_37_3, rf_37_4, rf_37_5, rf_37_6, rf_37_7, rf_37_8, rf_37_9, rf_37_10, rf_39_0, rf_39_1, rf_49_0, rf_51_0, rf_51_2, rf_51_3, rf_51_4, rf_51_6, rf_53_0, rf_53_1, rfa_59, rf_60_0, rf_62_0, rf_64_0, rf_66_0, rf_68_2, rf_68_3, rf_68_4, rf_68_5, rf_68_6, rf_68_7, rf_68_8, rf_68_9, rf_68_10, rf_68_11, rf_68_12, rf_68_13, rf_68_15, rf_68_16, rf_68_17, rf_68_18, rf_68_19, rf_68_20, rf_68_23, rf_68_27, rf_68_28, rf_68_29, rf_68_30, rf_68_31, rf_68_33, rf_68_35, rf_68_36, la_2, la_3, la_21, la_22, la_24, la_38, la_40, la_41, la_42, la_43, la_44, la_45, la_46, la_47, la_48, la_50, la_52, la_54, la_55, la_56, la_57, la_58, la_59, la_61, la_63, la_65, la_67, la_69, la_70, la_71, la_72, la_73, la_74, la_75, la_76, la_77, la_78, la_79, la_80, la_81, la_82, la_83, la_84, la_85, la_86, la_87, la_88, la_89, la_90, la_91, la_92, la_93, la_94, la_95, rf_sheet, la_cells, u_same1, u_oj, u_ok, v_same1, v_oj, v_ok, n_lt, n_le, n_eq, n_lt0, n_ge0, n_gt0, n_le0, n_eq0, n_cl, nI_add, n_sub, n_l, lt_m1, lt_m2, lt_m3, lt_m4, lt_m9, c_ge, c_le, c_gt, c_lt, c_eq, w_ge, w_lt, w_gt, not_true_eq_false, not_false_eq_true, ↓reduceIte, Nat.reduceAdd, Nat.reduceSub, Nat.reduceEqDiff, Nat.reduceLT, Nat.reduceLeDiff, Nat.add_sub_cancel, true_and, and_true]
      refine areSound_wp (d := d) (R := 53) isR53 w A.1 (X := 56) (by decide) (by decide) (rwS_W hp (row9 w)) A.2.2.2.2 (fun k hk => ?_)
      cases es : sdB T (rwS p (T 9) D) N with
      | true =>
        have key := h1 (by rw [eo]; exact es) (ry L 54 55 (rt T (rwS p (T 9) D)) 0 k) (ry_DS hS) ry_fr
        simp (disch := first | decide | assumption | omega | exact cat_int | exact cat_ref | exact cat_null | exact Or.inl rfl | exact Or.inr rfl | (refine so_node ?_; omega) | (refine inA_n ?_ ?_ <;> (try simp only [la_2, la_3, la_21, la_22, la_24, la_38, la_40, la_41, la_42, la_43, la_44, la_45, la_46, la_47, la_48, la_50, la_52, la_54, la_55, la_56, la_57, la_58, la_59, la_61, la_63, la_65, la_67, la_69, la_70, la_71, la_72, la_73, la_74, la_75, la_76, la_77, la_78, la_79, la_80, la_81, la_82, la_83, la_84, la_85, la_86, la_87, la_88, la_89, la_90, la_91, la_92, la_93, la_94, la_95]) <;> omega) | (simp (disch := omega) only [u_same1, u_oj, u_ok]; assumption) | (refine so_wish ?_; omega) | (refine so_sheet ?_; omega) | (refine ta_cells ?_; omega) | (refine inA_c ?_ ?_ <;> omega) | (rw [ta_cells] <;> omega)) only [sX6_reaches_0, sX6_reaches_1, sX6_reaches_4, sX6_reaches_5, sX6_reaches_7, sX6_reaches_8, sX6_reaches_9, sX6_reaches_10, sX6_reaches_12, sX6_reaches_13, sX6_reaches_14, sX6_reaches_15, sX6_reaches_16, sX6_reaches_17, sX6_reaches_18, sX6_reaches_21, sX6_reaches_22, sX6_reaches_23, sX6_reaches_25, sX6_reaches_28, sX6_reaches_29, sX6_reaches_32, sX6_reaches_33, sX6_reaches_34, sX6_reaches_37, sX6_reaches_40, sX6_reaches_45, sX6_reaches_46, sX6_reaches_49, sX6_reaches_52, sX6_reaches_53, sX6_reaches_54, sX6_reaches_55, sX6_reaches_59, sX6_reaches_60, sX6_reaches_63, sX6_reaches_66, sX6_reaches_67, sX6_reaches_69, sX6_reaches_70, sX6_reaches_71, sX6_reaches_72, sX6_reaches_75, sX6_reaches_76, sX6_reaches_77, sX6_reaches_78, sX6_reaches_79, sX6_reaches_81, sX6_reaches_83, sX6_reaches_86, sX6_reaches_89, sX6_reaches_90, sX6_reaches_91, sX6_reaches_94, sX6_reaches_97, sX6_reaches_98, sX6_reaches_101, sX6_reaches_102, sX6_reaches_104, sX6_reaches_105, sX6_reaches_106, sX6_reaches_107, sX6_reaches_108, sX6_reaches_109, sX6_reaches_111, sX6_reaches_112, sX6_reaches_113, sX6_reaches_114, sX6_reaches_115, sX6_reaches_116, b2i, rf_0_0, rf_0_1, rf_0_2, rf_0_3, rf_0_4, rf_0_5, rf_0_6, rf_1_0, rf_1_1, rfa_2, rf_20_0, rf_20_1, rf_23_0, rfa_24, rf_37_1, rf_37_3, rf_37_4, rf_37_5, rf_37_6, rf_37_7, rf_37_8, rf_37_9, rf_37_10, rf_39_0, rf_39_1, rf_49_0, rf_51_0, rf_51_2, rf_51_3, rf_51_4, rf_51_6, rf_53_0, rf_53_1, rfa_59, rf_60_0, rf_62_0, rf_64_0, rf_66_0, rf_68_2, rf_68_3, rf_68_4, rf_68_5, rf_68_6, rf_68_7, rf_68_8, rf_68_9, rf_68_10, rf_68_11, rf_68_12, rf_68_13, rf_68_15, rf_68_16, rf_68_17, rf_68_18, rf_68_19, rf_68_20, rf_68_23, rf_68_27, rf_68_28, rf_68_29, rf_68_30, rf_68_31, rf_68_33, rf_68_35, rf_68_36, la_2, la_3, la_21, la_22, la_24, la_38, la_40, la_41, la_42, la_43, la_44, la_45, la_46, la_47, la_48, la_50, la_52, la_54, la_55, la_56, la_57, la_58, la_59, la_61, la_63, la_65, la_67, la_69, la_70, la_71, la_72, la_73, la_74, la_75, la_76, la_77, la_78, la_79, la_80, la_81, la_82, la_83, la_84, la_85, la_86, la_87, la_88, la_89, la_90, la_91, la_92, la_93, la_94, la_95, rf_sheet, la_cells, u_same1, u_oj, u_ok, v_same1, v_oj, v_ok, n_lt, n_le, n_eq, n_lt0, n_ge0, n_gt0, n_le0, n_eq0, n_cl, nI_add, n_sub, n_l, lt_m1, lt_m2, lt_m3, lt_m4, lt_m9, c_ge, c_le, c_gt, c_lt, c_eq, w_ge, w_lt, w_gt, not_true_eq_false, not_false_eq_true, ↓reduceIte, Nat.reduceAdd, Nat.reduceSub, Nat.reduceEqDiff, Nat.reduceLT, Nat.reduceLeDiff, Nat.add_sub_cancel, true_and, and_true]
        exact key
      | false =>
        have hl : ld c (okS N T p) D = false := ld_ok (by rw [eo]; exact es)
        have key := h0 hl _ (set_DS (ry_DS (f := rt T (rwS p (T 9) D)) (k := k) hS) hl) (fr_trans ry_fr set_fr)
        simp (disch := first | decide | assumption | omega | exact cat_int | exact cat_ref | exact cat_null | exact Or.inl rfl | exact Or.inr rfl | (refine so_node ?_; omega) | (refine inA_n ?_ ?_ <;> (try simp only [la_2, la_3, la_21, la_22, la_24, la_38, la_40, la_41, la_42, la_43, la_44, la_45, la_46, la_47, la_48, la_50, la_52, la_54, la_55, la_56, la_57, la_58, la_59, la_61, la_63, la_65, la_67, la_69, la_70, la_71, la_72, la_73, la_74, la_75, la_76, la_77, la_78, la_79, la_80, la_81, la_82, la_83, la_84, la_85, la_86, la_87, la_88, la_89, la_90, la_91, la_92, la_93, la_94, la_95]) <;> omega) | (simp (disch := omega) only [u_same1, u_oj, u_ok]; assumption) | (refine so_wish ?_; omega) | (refine so_sheet ?_; omega) | (refine ta_cells ?_; omega) | (refine inA_c ?_ ?_ <;> omega) | (rw [ta_cells] <;> omega)) only [sX6_reaches_0, sX6_reaches_1, sX6_reaches_4, sX6_reaches_5, sX6_reaches_7, sX6_reaches_8, sX6_reaches_9, sX6_reaches_10, sX6_reaches_12, sX6_reaches_13, sX6_reaches_14, sX6_reaches_15, sX6_reaches_16, sX6_reaches_17, sX6_reaches_18, sX6_reaches_21, sX6_reaches_22, sX6_reaches_23, sX6_reaches_25, sX6_reaches_28, sX6_reaches_29, sX6_reaches_32, sX6_reaches_33, sX6_reaches_34, sX6_reaches_37, sX6_reaches_40, sX6_reaches_45, sX6_reaches_46, sX6_reaches_49, sX6_reaches_52, sX6_reaches_53, sX6_reaches_54, sX6_reaches_55, sX6_reaches_59, sX6_reaches_60, sX6_reaches_63, sX6_reaches_66, sX6_reaches_67, sX6_reaches_69, sX6_reaches_70, sX6_reaches_71, sX6_reaches_72, sX6_reaches_75, sX6_reaches_76, sX6_reaches_77, sX6_reaches_78, sX6_reaches_79, sX6_reaches_81, sX6_reaches_83, sX6_reaches_86, sX6_reaches_89, sX6_reaches_90, sX6_reaches_91, sX6_reaches_94, sX6_reaches_98, sX6_reaches_101, sX6_reaches_102, sX6_reaches_104, sX6_reaches_105, sX6_reaches_106, sX6_reaches_107, sX6_reaches_108, sX6_reaches_109, sX6_reaches_111, sX6_reaches_112, sX6_reaches_113, sX6_reaches_114, sX6_reaches_115, sX6_reaches_116, b2i, Bool.false_eq_true, dead_tail, rf_0_0, rf_0_1, rf_0_2, rf_0_3, rf_0_4, rf_0_5, rf_0_6, rf_1_0, rf_1_1, rfa_2, rf_20_0, rf_20_1, rf_23_0, rfa_24, rf_37_1, rf_37_3, rf_37_4, rf_37_5, rf_37_6, rf_37_7, rf_37_8, rf_37_9, rf_37_10, rf_39_0, rf_39_1, rf_49_0, rf_51_0, rf_51_2, rf_51_3, rf_51_4, rf_51_6, rf_53_0, rf_53_1, rfa_59, rf_60_0, rf_62_0, rf_64_0, rf_66_0, rf_68_2, rf_68_3, rf_68_4, rf_68_5, rf_68_6, rf_68_7, rf_68_8, rf_68_9, rf_68_10, rf_68_11, rf_68_12, rf_68_13, rf_68_15, rf_68_16, rf_68_17, rf_68_18, rf_68_19, rf_68_20, rf_68_23, rf_68_27, rf_68_28, rf_68_29, rf_68_30, rf_68_31, rf_68_33, rf_68_35, rf_68_36, la_2, la_3, la_21, la_22, la_24, la_38, la_40, la_41, la_42, la_43, la_44, la_45, la_46, la_47, la_48, la_50, la_52, la_54, la_55, la_56, la_57, la_58, la_59, la_61, la_63, la_65, la_67, la_69, la_70, la_71, la_72, la_73, la_74, la_75, la_76, la_77, la_78, la_79, la_80, la_81, la_82, la_83, la_84, la_85, la_86, la_87, la_88, la_89, la_90, la_91, la_92, la_93, la_94, la_95, rf_sheet, la_cells, u_same1, u_oj, u_ok, v_same1, v_oj, v_ok, n_lt, n_le, n_eq, n_lt0, n_ge0, n_gt0, n_le0, n_eq0, n_cl, nI_add, n_sub, n_l, lt_m1, lt_m2, lt_m3, lt_m4, lt_m9, c_ge, c_le, c_gt, c_lt, c_eq, w_ge, w_lt, w_gt, not_true_eq_false, not_false_eq_true, ↓reduceIte, Nat.reduceAdd, Nat.reduceSub, Nat.reduceEqDiff, Nat.reduceLT, Nat.reduceLeDiff, Nat.add_sub_cancel, true_and, and_true]
        exact key
end
