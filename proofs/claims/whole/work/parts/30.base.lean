/-! plain facts for the run of the small machine -/
theorem cat_int {x : Int32} : (Value.int x).category = 1 := rfl
theorem cat_ref {x : Nat} : (Value.ref x).category = 1 := rfl
theorem cat_null : (Value.null).category = 1 := rfl
theorem z0 : (nI 0 = 0) = True := by decide +kernel
theorem z1 : (nI 1 = 0) = False := by decide +kernel
theorem n_lt {a b : Nat} (ha : a < 2147483648) (hb : b < 2147483648) : (nI a < nI b) = (a < b) := propext (nI_ltI ha hb)
theorem n_le {a b : Nat} (ha : a < 2147483648) (hb : b < 2147483648) : (nI a ≤ nI b) = (a ≤ b) := propext (nI_leI ha hb)
theorem n_eq {a b : Nat} (ha : a < 2147483648) (hb : b < 2147483648) : (nI a = nI b) = (a = b) := propext (nI_eq ha hb)
theorem n_lt0 {a : Nat} (ha : a < 2147483648) : (nI a < 0) = False := eq_false (nI_pos ha)
theorem n_ge0 {a : Nat} (ha : a < 2147483648) : ((0 : Int32) ≤ nI a) = True := eq_true (nI_pos' ha)
theorem n_eq0 {a : Nat} (ha : a < 2147483648) : (nI a = 0) = (a = 0) := propext ⟨fun h => by
  have : nI a = nI 0 := h
  exact (nI_eq ha (by omega)).mp this, fun h => by subst h; rfl⟩
theorem n_gt0 {a : Nat} (ha : a < 2147483648) : ((0 : Int32) < nI a) = (0 < a) := propext ⟨fun h => by
  have : nI 0 < nI a := h
  exact (nI_ltI (by omega) ha).mp this, fun h => (nI_ltI (a := 0) (by omega) ha).mpr h⟩
theorem n_le0 {a : Nat} (ha : a < 2147483648) : (nI a ≤ 0) = (a = 0) := propext ⟨fun h => by
  have : nI a ≤ nI 0 := h
  have := (nI_leI ha (by omega)).mp this
  omega, fun h => by subst h; exact Int32.le_refl _⟩
theorem n_cl {a : Nat} (ha : a < 2147483648) : (nI a).toNatClampNeg = a := nI_clamp ha
theorem n_sub {a b : Nat} (h : b ≤ a) : nI a - nI b = nI (a - b) := pk_sub h
theorem inA_n {i n : Nat} (h : i < n) (hi : i < 2147483648) : inA (nI i) n = true := by
  unfold inA
  simp only [n_lt0 hi, n_cl hi, decide_false, Bool.false_or, Bool.not_eq_true', decide_eq_false_iff_not]
  omega
theorem so_node {n : Nat} (h : n < 16) : shO (4 + n) = some 0 := by
  have : ∀ n, n < 16 → shO (4 + n) = some 0 := by decide +kernel
  exact this n h
theorem so_wish {n : Nat} (h : n < 12) : shO (25 + n) = some 7 := by
  have : ∀ n, n < 12 → shO (25 + n) = some 7 := by decide +kernel
  exact this n h
theorem so_sheet {n : Nat} (h : n < 4) : shO (60 + 2 * n) = some 4 := by
  have : ∀ n, n < 4 → shO (60 + 2 * n) = some 4 := by decide +kernel
  exact this n h
theorem rf_sheet {n : Nat} (h : n < 4) : Rf (60 + 2 * n) 0 = 61 + 2 * n := by
  have : ∀ n, n < 4 → Rf (60 + 2 * n) 0 = 61 + 2 * n := by decide +kernel
  exact this n h
theorem ta_cells {n : Nat} (h : n < 4) : tyA (61 + 2 * n) = 0 := by
  have : ∀ n, n < 4 → tyA (61 + 2 * n) = 0 := by decide +kernel
  exact this n h
theorem la_cells {n : Nat} (h : n < 4) : lenA (61 + 2 * n) = 24 := by
  have : ∀ n, n < 4 → lenA (61 + 2 * n) = 24 := by decide +kernel
  exact this n h
theorem inA_c {i k : Nat} (hk : k < 4) (hi : i < 24) : inA (nI i) (lenA (61 + 2 * k)) = true := by
  rw [la_cells hk]
  exact inA_n hi (by omega)
theorem up2_at {I : Nat → Nat → Int32} {k j k' j' : Nat} {x : Int32} : up2 I k j x k' j' = if k' = k ∧ j' = j then x else I k' j' := by
  unfold up2 va_up upd
  by_cases h : k' = k
  · subst h
    by_cases h2 : j' = j
    · simp [h2]
    · simp [h2]
  · simp [h]
theorem up2L_at {I : Nat → Nat → Int64} {k j k' j' : Nat} {x : Int64} : up2L I k j x k' j' = if k' = k ∧ j' = j then x else I k' j' := by
  unfold up2L va_up vp_updL
  by_cases h : k' = k
  · subst h
    by_cases h2 : j' = j
    · simp [h2]
    · simp [h2]
  · simp [h]
theorem la_2 : lenA 2 = 16 := rfl
theorem la_3 : lenA 3 = 16 := rfl
theorem la_21 : lenA 21 = 16 := rfl
theorem la_22 : lenA 22 = 16 := rfl
theorem la_24 : lenA 24 = 12 := rfl
theorem la_38 : lenA 38 = 16 := rfl
theorem la_40 : lenA 40 = 16 := rfl
theorem la_41 : lenA 41 = 16 := rfl
theorem la_42 : lenA 42 = 16 := rfl
theorem la_43 : lenA 43 = 12 := rfl
theorem la_44 : lenA 44 = 17 := rfl
theorem la_45 : lenA 45 = 17 := rfl
theorem la_46 : lenA 46 = 17 := rfl
theorem la_47 : lenA 47 = 17 := rfl
theorem la_48 : lenA 48 = 17 := rfl
theorem la_50 : lenA 50 = 16 := rfl
theorem la_52 : lenA 52 = 12 := rfl
theorem la_54 : lenA 54 = 16 := rfl
theorem la_55 : lenA 55 = 16 := rfl
theorem la_56 : lenA 56 = 16 := rfl
theorem la_57 : lenA 57 = 12 := rfl
theorem la_58 : lenA 58 = 64 := rfl
theorem la_59 : lenA 59 = 4 := rfl
theorem la_61 : lenA 61 = 24 := rfl
theorem la_63 : lenA 63 = 24 := rfl
theorem la_65 : lenA 65 = 24 := rfl
theorem la_67 : lenA 67 = 24 := rfl
theorem la_69 : lenA 69 = 16 := rfl
theorem la_70 : lenA 70 = 16 := rfl
theorem la_71 : lenA 71 = 16 := rfl
theorem la_72 : lenA 72 = 16 := rfl
theorem la_73 : lenA 73 = 16 := rfl
theorem la_74 : lenA 74 = 16 := rfl
theorem la_75 : lenA 75 = 16 := rfl
theorem la_76 : lenA 76 = 16 := rfl
theorem la_77 : lenA 77 = 16 := rfl
theorem la_78 : lenA 78 = 16 := rfl
theorem la_79 : lenA 79 = 16 := rfl
theorem la_80 : lenA 80 = 16 := rfl
theorem la_81 : lenA 81 = 12 := rfl
theorem la_82 : lenA 82 = 12 := rfl
theorem la_83 : lenA 83 = 12 := rfl
theorem la_84 : lenA 84 = 12 := rfl
theorem la_85 : lenA 85 = 12 := rfl
theorem la_86 : lenA 86 = 12 := rfl
theorem la_87 : lenA 87 = 16 := rfl
theorem la_88 : lenA 88 = 16 := rfl
theorem la_89 : lenA 89 = 4 := rfl
theorem la_90 : lenA 90 = 4 := rfl
theorem la_91 : lenA 91 = 96 := rfl
theorem la_92 : lenA 92 = 24 := rfl
theorem la_93 : lenA 93 = 12 := rfl
theorem la_94 : lenA 94 = 12 := rfl
theorem la_95 : lenA 95 = 4096 := rfl
theorem u_same1 {I : Nat → Nat → Int32} {k j : Nat} {x : Int32} : up2 I k j x k j = x := by simp [up2_at]
theorem u_oj {I : Nat → Nat → Int32} {k j j' : Nat} {x : Int32} (h : j' ≠ j) : up2 I k j x k j' = I k j' := by simp [up2_at, h]
theorem u_ok {I : Nat → Nat → Int32} {k k' j j' : Nat} {x : Int32} (h : k' ≠ k) : up2 I k j x k' j' = I k' j' := by simp [up2_at, h]
theorem v_same1 {I : Nat → Nat → Int64} {k j : Nat} {x : Int64} : up2L I k j x k j = x := by simp [up2L_at]
theorem v_oj {I : Nat → Nat → Int64} {k j j' : Nat} {x : Int64} (h : j' ≠ j) : up2L I k j x k j' = I k j' := by simp [up2L_at, h]
theorem v_ok {I : Nat → Nat → Int64} {k k' j j' : Nat} {x : Int64} (h : k' ≠ k) : up2L I k j x k' j' = I k' j' := by simp [up2L_at, h]
theorem lt_m1 : ((-1 : Int32) < 0) = True := by decide +kernel
theorem lt_m2 : ((-2 : Int32) < 0) = True := by decide +kernel
theorem lt_m3 : ((-3 : Int32) < 0) = True := by decide +kernel
theorem lt_m4 : ((-4 : Int32) < 0) = True := by decide +kernel
theorem lt_m9 : ((-9 : Int32) < 0) = True := by decide +kernel
theorem l_lt {a b : Nat} (ha : a < 9223372036854775808) (hb : b < 9223372036854775808) : (lN a < lN b) = (a < b) := propext (pk_lLT ha hb)
theorem l_le {a b : Nat} (ha : a < 9223372036854775808) (hb : b < 9223372036854775808) : (lN a ≤ lN b) = (a ≤ b) := propext (pk_lLE ha hb)
theorem l_eq {a b : Nat} (ha : a < 9223372036854775808) (hb : b < 9223372036854775808) : (lN a = lN b) = (a = b) := propext (pk_lEQ ha hb)
theorem n_l {a : Nat} (h : a < 2147483648) : (nI a).toInt64 = lN a := nI_l h
/-- an int as a long, against a long that is a small number -/
theorem w_ge (x : Int32) {a : Nat} (h : a < 2147483648) : (lN a ≤ x.toInt64) = (nI a ≤ x) := by
  rw [← nI_l h]
  apply propext
  rw [Int64.le_iff_toInt_le, Int32.le_iff_toInt_le, Int32.toInt_toInt64, Int32.toInt_toInt64]
theorem w_lt (x : Int32) {a : Nat} (h : a < 2147483648) : (x.toInt64 < lN a) = (x < nI a) := by
  rw [← nI_l h]
  apply propext
  rw [Int64.lt_iff_toInt_lt, Int32.lt_iff_toInt_lt, Int32.toInt_toInt64, Int32.toInt_toInt64]
theorem w_gt (x : Int32) {a : Nat} (h : a < 2147483648) : (lN a < x.toInt64) = (nI a < x) := by
  rw [← nI_l h]
  apply propext
  rw [Int64.lt_iff_toInt_lt, Int32.lt_iff_toInt_lt, Int32.toInt_toInt64, Int32.toInt_toInt64]
theorem c_ge (x y : Int64) : ((0 : Int32) ≤ lg_cmp x y) = (y ≤ x) := propext (lg_cmp_ge x y)
theorem c_le (x y : Int64) : (lg_cmp x y ≤ 0) = (x ≤ y) := propext (lg_cmp_le x y)
theorem c_gt (x y : Int64) : ((0 : Int32) < lg_cmp x y) = (y < x) := propext (lg_cmp_gt x y)
theorem c_lt (x y : Int64) : (lg_cmp x y < 0) = (x < y) := propext (lg_cmp_lt x y)
theorem c_eq (x y : Int64) : (lg_cmp x y = 0) = (x = y) := propext (lg_cmp_eq x y)
theorem rf_0_0 : Rf 0 0 = 1 := rfl
theorem rf_0_1 : Rf 0 1 = 20 := rfl
theorem rf_0_2 : Rf 0 2 = 23 := rfl
theorem rf_0_3 : Rf 0 3 = 37 := rfl
theorem rf_0_4 : Rf 0 4 = 49 := rfl
theorem rf_0_5 : Rf 0 5 = 51 := rfl
theorem rf_0_6 : Rf 0 6 = 59 := rfl
theorem rf_1_0 : Rf 1 0 = 2 := rfl
theorem rf_1_1 : Rf 1 1 = 3 := rfl
theorem rfa_2 (j : Nat) : Rf 2 j = 4 + j := rfl
theorem rf_20_0 : Rf 20 0 = 21 := rfl
theorem rf_20_1 : Rf 20 1 = 22 := rfl
theorem rf_23_0 : Rf 23 0 = 24 := rfl
theorem rfa_24 (j : Nat) : Rf 24 j = 25 + j := rfl
theorem rf_37_1 : Rf 37 1 = 38 := rfl
theorem rf_37_3 : Rf 37 3 = 39 := rfl
theorem rf_37_4 : Rf 37 4 = 42 := rfl
theorem rf_37_5 : Rf 37 5 = 43 := rfl
theorem rf_37_6 : Rf 37 6 = 44 := rfl
theorem rf_37_7 : Rf 37 7 = 45 := rfl
theorem rf_37_8 : Rf 37 8 = 46 := rfl
theorem rf_37_9 : Rf 37 9 = 47 := rfl
theorem rf_37_10 : Rf 37 10 = 48 := rfl
theorem rf_39_0 : Rf 39 0 = 40 := rfl
theorem rf_39_1 : Rf 39 1 = 41 := rfl
theorem rf_49_0 : Rf 49 0 = 50 := rfl
theorem rf_51_0 : Rf 51 0 = 52 := rfl
theorem rf_51_2 : Rf 51 2 = 53 := rfl
theorem rf_51_3 : Rf 51 3 = 56 := rfl
theorem rf_51_4 : Rf 51 4 = 57 := rfl
theorem rf_51_6 : Rf 51 6 = 58 := rfl
theorem rf_53_0 : Rf 53 0 = 54 := rfl
theorem rf_53_1 : Rf 53 1 = 55 := rfl
theorem rfa_59 (j : Nat) : Rf 59 j = 60 + 2 * j := rfl
theorem rf_60_0 : Rf 60 0 = 61 := rfl
theorem rf_62_0 : Rf 62 0 = 63 := rfl
theorem rf_64_0 : Rf 64 0 = 65 := rfl
theorem rf_66_0 : Rf 66 0 = 67 := rfl
theorem rf_68_2 : Rf 68 2 = 69 := rfl
theorem rf_68_3 : Rf 68 3 = 70 := rfl
theorem rf_68_4 : Rf 68 4 = 71 := rfl
theorem rf_68_5 : Rf 68 5 = 72 := rfl
theorem rf_68_6 : Rf 68 6 = 73 := rfl
theorem rf_68_7 : Rf 68 7 = 74 := rfl
theorem rf_68_8 : Rf 68 8 = 75 := rfl
theorem rf_68_9 : Rf 68 9 = 76 := rfl
theorem rf_68_10 : Rf 68 10 = 77 := rfl
theorem rf_68_11 : Rf 68 11 = 78 := rfl
theorem rf_68_12 : Rf 68 12 = 79 := rfl
theorem rf_68_13 : Rf 68 13 = 80 := rfl
theorem rf_68_15 : Rf 68 15 = 81 := rfl
theorem rf_68_16 : Rf 68 16 = 82 := rfl
theorem rf_68_17 : Rf 68 17 = 83 := rfl
theorem rf_68_18 : Rf 68 18 = 84 := rfl
theorem rf_68_19 : Rf 68 19 = 85 := rfl
theorem rf_68_20 : Rf 68 20 = 86 := rfl
theorem rf_68_23 : Rf 68 23 = 87 := rfl
theorem rf_68_27 : Rf 68 27 = 88 := rfl
theorem rf_68_28 : Rf 68 28 = 89 := rfl
theorem rf_68_29 : Rf 68 29 = 90 := rfl
theorem rf_68_30 : Rf 68 30 = 91 := rfl
theorem rf_68_31 : Rf 68 31 = 92 := rfl
theorem rf_68_33 : Rf 68 33 = 93 := rfl
theorem rf_68_35 : Rf 68 35 = 94 := rfl
theorem rf_68_36 : Rf 68 36 = 95 := rfl
