/-! the small machine's state beside the machine's -/
def adr (base b k : Nat) : Nat := if k = 1000 then b else base + k
def adv (base b : Nat) (v : Value) : Value := match v with
  | .ref k => .ref (adr base b k)
  | v => v
def fvl (base : Nat) (σ : Sg) (c k j : Nat) : Value := match skF (tyT c j) with
  | 1 => .long (σ.2.2.2 k j)
  | 3 => if σ.2.1 k j then .ref (base + Rf k j) else .null
  | _ => .int (σ.2.2.1 k j)
def entO (base : Nat) (σ : Sg) (c k : Nat) : List Value := (List.range (nfT c)).map (fvl base σ c k)
def entA (base : Nat) (cy : Nat → ClassId) (σ : Sg) (t n k : Nat) : ClassId × vp_A := (cy t, n, if t = 1 then .inr (.inl (σ.2.2.2 k)) else if 3 ≤ t then .inr (.inr (.inr (.inr (fun j => if σ.2.1 k j then some (base + Rf k j) else none)))) else .inl (σ.2.2.1 k))
def ent (base : Nat) (cy : Nat → ClassId) (σ : Sg) (k : Nat) : va_E := match shL[k]? with
  | some (.inl c) => .inr (c, entO base σ c k)
  | some (.inr a) => .inl (entA base cy σ a.1 a.2 k)
  | none => .inr (0, [])
def wld (base : Nat) (cy : Nat → ClassId) (σ : Sg) : va_W := (List.range σ.1).map (fun k => (base + k, ent base cy σ k))
def tysOf (cy : Nat → ClassId) : List (ClassId × FieldType) := [(cy 0, .int), (cy 1, .long), (cy 2, .boolean), (cy 3, .object RX0), (cy 7, .object RX4), (cy 10, .object RX7)]
def sz1 (k : Nat) : Nat := match shL[k]? with
  | some (.inl c) => nfT c
  | some (.inr a) => a.2
  | none => 0
def szs : Nat → Nat
  | 0 => 0
  | n + 1 => szs n + sz1 n
theorem wld_at {base : Nat} {cy : Nat → ClassId} {σ : Sg} {k : Nat} (h : k < σ.1) : (wld base cy σ)[k]? = some (base + k, ent base cy σ k) := by
  simp [wld, h]
theorem ent_obj {base : Nat} {cy : Nat → ClassId} {σ : Sg} {k c : Nat} (h : shO k = some c) : ent base cy σ k = .inr (c, entO base σ c k) := by
  unfold shO at h
  unfold ent
  split at h
  · next c' e => cases h; rw [e]
  · cases h
theorem ent_arr {base : Nat} {cy : Nat → ClassId} {σ : Sg} {k : Nat} {a : Nat × Nat} (h : shA k = some a) : ent base cy σ k = .inl (entA base cy σ a.1 a.2 k) := by
  unfold shA at h
  unfold ent
  split at h
  · next c' e => cases h; rw [e]
  · cases h
theorem ent_congr {base : Nat} {cy : Nat → ClassId} {σ τ : Sg} {k : Nat} (h1 : τ.2.1 k = σ.2.1 k) (h2 : τ.2.2.1 k = σ.2.2.1 k) (h3 : τ.2.2.2 k = σ.2.2.2 k) : ent base cy τ k = ent base cy σ k := by
  unfold ent
  cases shL[k]? with
  | none => rfl
  | some x =>
    cases x with
    | inl c =>
      have e : fvl base τ c k = fvl base σ c k := by funext j; simp only [fvl, h1, h2, h3]
      simp only [entO, e]
    | inr a => simp only [entA, h1, h2, h3]
theorem entO_at {base : Nat} {σ : Sg} {c k j : Nat} (h : j < nfT c) : (entO base σ c k)[j]? = some (fvl base σ c k j) := by
  simp [entO, h]
theorem entO_len {base : Nat} {σ : Sg} {c k : Nat} : (entO base σ c k).length = nfT c := by simp [entO]
/-- one place changes, the others stay -/
theorem wld_set {base : Nat} {cy : Nat → ClassId} {σ τ : Sg} {k : Nat} (hn : τ.1 = σ.1) (hk : k < σ.1) (h : ∀ q, q ≠ k → τ.2.1 q = σ.2.1 q ∧ τ.2.2.1 q = σ.2.2.1 q ∧ τ.2.2.2 q = σ.2.2.2 q) : (wld base cy σ).set k (base + k, ent base cy τ k) = wld base cy τ := by
  apply List.ext_getElem?
  intro i
  by_cases hi : i < σ.1
  · rw [wld_at (σ := τ) (by omega)]
    by_cases e : i = k
    · subst e
      rw [List.getElem?_set_self (by simp [wld]; omega)]
    · rw [List.getElem?_set_ne (fun q => e q.symm), wld_at hi]
      obtain ⟨h1, h2, h3⟩ := h i e
      rw [ent_congr h1 h2 h3]
  · have a1 : (wld base cy τ)[i]? = none := by simp [wld, hn]; omega
    have a2 : ((wld base cy σ).set k (base + k, ent base cy τ k))[i]? = none := by simp [wld]; omega
    rw [a1, a2]
theorem wld_D {base : Nat} {cy : Nat → ClassId} {σ : Sg} : va_D (fun q : Nat => base ≤ q) (wld base cy σ) := by
  have at' : ∀ (i : Nat) (p : Nat × va_E), (wld base cy σ)[i]? = some p → p.1 = base + i := by
    intro i p h
    have hi : i < σ.1 := by
      have := (List.getElem?_eq_some_iff.mp h).1
      simpa [wld] using this
    rw [wld_at hi] at h
    cases h
    rfl
  refine ⟨fun i j p q hi hj e => ?_, fun k q h => ?_⟩
  · rw [at' i p hi, at' j q hj] at e; omega
  · show base ≤ q.1
    rw [at' k q h]; omega
theorem wld_len {base : Nat} {cy : Nat → ClassId} {σ : Sg} : (wld base cy σ).length = σ.1 := by simp [wld]
/-- a field of an object becomes another value -/
theorem entO_set {base : Nat} {σ τ : Sg} {c k j : Nat} {v : Value} (hv : fvl base τ c k j = v) (h : ∀ i, i ≠ j → fvl base τ c k i = fvl base σ c k i) : (entO base σ c k).set j v = entO base τ c k := by
  apply List.ext_getElem?
  intro i
  by_cases hi : i < nfT c
  · rw [entO_at hi]
    by_cases e : i = j
    · subst e
      rw [List.getElem?_set_self (by rw [entO_len]; exact hi), hv]
    · rw [List.getElem?_set_ne (fun q => e q.symm), entO_at hi, h i e]
  · have a1 : (entO base τ c k)[i]? = none := by simp [entO]; omega
    have a2 : ((entO base σ c k).set j v)[i]? = none := by simp [entO]; omega
    rw [a1, a2]
theorem up2_ne {I : Nat → Nat → Int32} {k j q : Nat} {x : Int32} (h : q ≠ k) : up2 I k j x q = I q := by simp [up2, va_up, h]
theorem up2_eq {I : Nat → Nat → Int32} {k j : Nat} {x : Int32} : up2 I k j x k = upd (I k) j x := by simp [up2, va_up]
theorem up2L_ne {I : Nat → Nat → Int64} {k j q : Nat} {x : Int64} (h : q ≠ k) : up2L I k j x q = I q := by simp [up2L, va_up, h]
theorem up2L_eq {I : Nat → Nat → Int64} {k j : Nat} {x : Int64} : up2L I k j x k = vp_updL (I k) j x := by simp [up2L, va_up]
theorem up2F_ne {F : Nat → Nat → Bool} {k j q : Nat} (h : q ≠ k) : up2F F k j q = F q := by simp [up2F, va_up, h]
theorem up2F_eq {F : Nat → Nat → Bool} {k j : Nat} : up2F F k j k = va_up (F k) j true := by simp [up2F, va_up]
theorem vu_ne {α : Type} {f : Nat → α} {k q : Nat} {x : α} (h : q ≠ k) : va_up f k x q = f q := by simp [va_up, h]
theorem vu_eq {α : Type} {f : Nat → α} {k : Nat} {x : α} : va_up f k x k = x := by simp [va_up]
/-! the tables' facts, by the kernel -/
def fldP : Nat → List (Nat) := fun c => match c with
  | 0 => [105, 92, 96, 84]
  | 1 => [290, 292]
  | 2 => [157, 160, 139, 132, 83, 87, 90, 101, 104, 107]
  | 3 => [234, 238, 239, 240, 241, 242, 243, 244, 245, 246, 247, 236, 250, 232, 142, 217, 214, 186, 133, 109, 137, 94, 98, 198, 248, 249]
  | 4 => [338, 340, 342]
  | 5 => [131, 135, 140, 82, 86, 89, 93, 97, 100, 108]
  | 6 => [307, 309, 311, 312, 313, 315, 314, 141, 136]
  | 7 => [182, 188, 191, 194, 161, 158]
  | 8 => [213, 216, 183, 185, 189, 192, 195, 197]
  | 9 => [350, 351, 352, 353, 354, 355, 356, 134, 103, 106, 110, 138, 159, 162, 85, 88, 91, 95, 99, 143, 215, 184, 187, 190, 193, 196, 199, 235, 237, 293, 291, 358, 339, 233, 310, 308, 341, 102, 357, 218]
  | 10 => [788, 789, 790, 791, 792, 793, 794, 795, 796, 797, 798, 799, 801, 802, 803, 804, 805, 806, 809, 813, 814, 815, 816, 817, 819, 821, 822, 808, 818, 786, 787, 800, 807, 810, 811, 812, 820, 823]
  | _ => []
def cstP : Nat → List (Nat) := fun c => match c with
  | 0 => [81]
  | 3 => [574]
  | 5 => [554]
  | 7 => [529]
  | 9 => [382, 418]
  | 10 => [1030]
  | _ => []
def cslP : Nat → List (Nat) := fun c => match c with
  | 2 => [455]
  | 7 => [533, 534]
  | 9 => [435]
  | 10 => [952, 914, 906, 923, 924, 1007, 1008, 1017, 1074, 1162]
  | _ => []
def newP : Nat → List (Nat × Nat × Nat) := fun c => match c with
  | 3 => [(230, 152, 50)]
  | 5 => [(74, 76, 49)]
  | 6 => [(305, 152, 50)]
  | 8 => [(175, 177, 52)]
  | 9 => [(68, 69, 48), (151, 152, 50), (169, 170, 51), (224, 225, 53), (284, 285, 54), (299, 300, 55), (331, 333, 56)]
  | 11 => [(60, 61, 47), (780, 781, 57)]
  | _ => []
def layP : Nat → List (Nat) := fun c => match c with
  | 0 => [111, 113, 115, 117, 119, 121, 123, 125, 127]
  | 1 => [294, 296]
  | 2 => [163, 165]
  | 3 => [251, 253, 255, 257, 259, 261, 263, 265, 267, 269, 271, 273, 275, 277, 279, 281]
  | 4 => [343, 345, 347]
  | 5 => [144, 146, 148]
  | 6 => [316, 318, 320, 322, 324, 326, 328]
  | 7 => [200, 202, 204, 206, 208, 210]
  | 8 => [219, 221]
  | 9 => [359, 361, 363, 365, 367, 369, 371, 373, 375]
  | 10 => [824, 826, 828, 830, 832, 834, 836, 838, 840, 842, 844, 846, 848, 850, 852, 854, 856, 858, 860, 862, 864, 866, 868, 870, 872, 874, 876, 878, 880, 882, 884, 886, 888, 890, 892, 894, 896, 898]
  | _ => []
def invP : Nat → List (List Nat) := fun c => match c with
  | 0 => [[80]]
  | 1 => [[289], [611]]
  | 2 => [[156], [440, 443, 50, 441, 442], [489, 479, 50, 477, 478], [444, 447, 50, 446, 1], [456, 459, 50, 458, 3], [460, 463, 50, 462, 4], [451, 454, 50, 453, 2], [448, 450, 50, 449], [480, 467, 50, 465, 466]]
  | 3 => [[229], [231, 155, 50, 154], [562, 565, 53, 564, 6], [575, 578, 53, 577, 7], [566, 549, 48, 547, 548], [567, 570, 52, 568, 569], [579, 582, 53, 581, 8], [590, 443, 50, 441, 442], [591, 479, 50, 477, 478], [592, 595, 53, 594, 10], [599, 602, 53, 601, 11], [596, 524, 52, 522, 523], [597], [598, 497, 50, 495, 496], [583, 586, 53, 585, 9], [587]]
  | 4 => [[337], [642, 645, 56, 643, 644], [646, 649, 56, 647, 648]]
  | 5 => [[73], [77, 79, 49, 78], [550, 553, 49, 551, 552], [555], [658, 426, 49, 424, 425]]
  | 6 => [[304], [306, 155, 50, 154], [679, 682, 55, 681, 13], [683, 488, 50, 486, 487], [684, 687, 55, 686, 14]]
  | 7 => [[181], [525, 528, 50, 526, 527], [530], [535], [571]]
  | 8 => [[174], [178, 180, 52, 179]]
  | 9 => [[65], [70, 72, 48, 71], [153, 155, 50, 154], [171, 173, 51, 172], [226, 228, 53, 227], [286, 288, 54, 287], [301, 303, 55, 302], [334, 336, 56, 335], [383, 385, 47, 384], [386, 389, 47, 388, 0], [402, 405, 48, 403, 404], [394, 397, 55, 395, 396], [423, 426, 49, 424, 425], [436, 439, 50, 437, 438], [464, 467, 50, 465, 466], [472, 475, 47, 474, 5], [485, 488, 50, 486, 487], [494, 497, 50, 495, 496], [502, 504, 47, 503], [505, 508, 51, 506, 507], [517, 520, 51, 518, 519], [521, 524, 52, 522, 523], [546, 549, 48, 547, 548], [558, 561, 53, 559, 560], [603, 606, 54, 604, 605], [607, 610, 54, 608, 609], [616, 619, 53, 617, 618], [624, 627, 54, 625, 626], [632, 634, 47, 633], [635, 637, 47, 636], [638, 641, 56, 639, 640], [650, 653, 47, 652, 12], [654, 657, 48, 655, 656], [659, 662, 48, 660, 661], [671, 674, 48, 672, 673], [675, 678, 55, 676, 677], [692, 695, 55, 693, 694], [704, 707, 56, 705, 706], [712, 645, 56, 643, 644], [713, 716, 56, 714, 715], [721, 649, 56, 647, 648], [722, 725, 56, 723, 724], [734], [739, 742, 47, 741, 15], [743, 746, 47, 745, 16], [751, 754, 47, 753, 17], [760, 763, 49, 761, 762], [776, 779, 47, 778, 18], [390, 393, 48, 391, 392], [476, 479, 50, 477, 478], [755, 553, 49, 551, 552]]
  | 10 => [[785], [949, 951, 57, 950], [907, 909, 57, 908], [910, 913, 57, 912, 19], [919, 922, 57, 921, 20], [973, 975, 57, 974], [965, 968, 57, 967, 24], [969, 972, 57, 971, 25], [961, 964, 57, 963, 23], [957, 960, 57, 959, 22], [980, 983, 57, 982, 26], [953, 956, 57, 955, 21], [988, 991, 57, 990, 27], [996, 999, 57, 998, 28], [1004, 1006, 57, 1005], [1009, 1012, 57, 1011, 29], [1022, 1025, 57, 1024, 30], [1026, 1029, 57, 1028, 31], [1039, 1042, 57, 1041, 32], [1043, 1046, 57, 1045, 33], [1047, 1050, 57, 1049, 34], [1051, 1054, 57, 1053, 35], [1071, 1073, 57, 1072], [1075, 1078, 57, 1077, 36], [1079, 1082, 57, 1081, 37], [1091, 1094, 57, 1093, 38], [1099, 1102, 57, 1101, 39], [1107, 1109, 57, 1108], [1114, 1117, 57, 1116, 40], [1134, 1137, 57, 1136, 44], [1122, 1125, 57, 1124, 41], [1126, 1129, 57, 1128, 42], [1130, 1133, 57, 1132, 43], [1150, 1153, 57, 1152, 45]]
  | 11 => [[62, 64, 47, 63], [782, 784, 57, 783], [378, 381, 47, 379, 380], [902, 905, 57, 903, 904], [398, 401, 47, 399, 400], [915, 918, 57, 916, 917], [406, 409, 47, 407, 408], [925, 928, 57, 926, 927], [410, 413, 47, 411, 412], [929, 932, 57, 930, 931], [414, 417, 47, 415, 416], [933, 936, 57, 934, 935], [419, 422, 47, 420, 421], [937, 940, 57, 938, 939], [427, 430, 47, 428, 429], [941, 944, 57, 942, 943], [431, 434, 47, 432, 433], [945, 948, 57, 946, 947], [468, 471, 47, 469, 470], [976, 979, 57, 977, 978], [481, 484, 47, 482, 483], [984, 987, 57, 985, 986], [490, 493, 47, 491, 492], [992, 995, 57, 993, 994], [498, 501, 47, 499, 500], [1000, 1003, 57, 1001, 1002], [509, 512, 47, 510, 511], [1013, 1016, 57, 1014, 1015], [513, 516, 47, 514, 515], [1018, 1021, 57, 1019, 1020], [538, 541, 47, 539, 540], [1031, 1034, 57, 1032, 1033], [542, 545, 47, 543, 544], [1035, 1038, 57, 1036, 1037], [612, 615, 47, 613, 614], [1055, 1058, 57, 1056, 1057], [620, 623, 47, 621, 622], [1059, 1062, 57, 1060, 1061], [628, 631, 47, 629, 630], [1110, 1113, 57, 1111, 1112], [663, 666, 47, 664, 665], [1063, 1066, 57, 1064, 1065], [667, 670, 47, 668, 669], [1118, 1121, 57, 1119, 1120], [688, 691, 47, 689, 690], [1138, 1141, 57, 1139, 1140], [696, 699, 47, 697, 698], [1142, 1145, 57, 1143, 1144], [700, 703, 47, 701, 702], [1067, 1070, 57, 1068, 1069], [708, 711, 47, 709, 710], [1083, 1086, 57, 1084, 1085], [717, 720, 47, 718, 719], [1087, 1090, 57, 1088, 1089], [726, 729, 47, 727, 728], [1095, 1098, 57, 1096, 1097], [730, 733, 47, 731, 732], [1103, 1106, 57, 1104, 1105], [735, 738, 47, 736, 737], [1146, 1149, 57, 1147, 1148], [747, 750, 47, 748, 749], [1154, 1157, 57, 1155, 1156], [756, 759, 47, 757, 758], [1158, 1161, 57, 1159, 1160], [764, 767, 47, 765, 766], [1163, 1166, 57, 1164, 1165], [768, 771, 47, 769, 770], [1167, 1170, 57, 1168, 1169], [772, 775, 47, 773, 774], [1171, 1174, 57, 1172, 1173]]
  | _ => []
/-- a word stands at a place of the tables -/
def wAt (i : Nat) (w : Jvm.Cond) : Bool := decide (lw_tbl[i]? = some w)
theorem wAt_mem {i : Nat} {w : Jvm.Cond} (h : wAt i w = true) : w ∈ lw_tbl := List.mem_of_getElem? (of_decide_eq_true h)
def zipAll {α β : Type} (f : α → β → Bool) : List α → List β → Bool
  | [], _ => true
  | a :: as, b :: bs => f a b && zipAll f as bs
  | _ :: _, [] => false
theorem zipAll_mem {α β : Type} {f : α → β → Bool} : ∀ {as : List α} {bs : List β}, zipAll f as bs = true → ∀ a ∈ as, ∃ b, f a b = true := by
  intro as
  induction as with
  | nil => intro bs _ a h; cases h
  | cons x t ih =>
    intro bs h a ha
    cases bs with
    | nil => simp [zipAll] at h
    | cons y u =>
      simp only [zipAll, Bool.and_eq_true] at h
      rcases List.mem_cons.mp ha with rfl | ha
      · exact ⟨y, h.1⟩
      · exact ih h.2 a ha
set_option maxRecDepth 100000 in
theorem tb_cl : ∀ c, c < 11 → vwCl[c]? = some (clsN c, tabT c, nfT c) := by
  intro c h
  have : c = 0 ∨ c = 1 ∨ c = 2 ∨ c = 3 ∨ c = 4 ∨ c = 5 ∨ c = 6 ∨ c = 7 ∨ c = 8 ∨ c = 9 ∨ c = 10 := by omega
  rcases this with rfl | rfl | rfl | rfl | rfl | rfl | rfl | rfl | rfl | rfl | rfl <;> rfl
/-- the words that may be moved to a later state -/
def twc (w : Jvm.Cond) : Bool := goodWord w || (match w with
  | .methodLinkNest _ _ _ _ => true
  | .arrayOver (.object _) => true
  | _ => false)
def tbw : List Jvm.Cond := lw_tbl.filter twc
theorem tbw_of {w : Jvm.Cond} (h : w ∈ lw_tbl) (t : twc w = true) : w ∈ tbw := List.mem_filter.mpr ⟨h, t⟩
theorem wAt_tbw {i : Nat} {w : Jvm.Cond} (t : twc w = true) (h : wAt i w = true) : w ∈ tbw := tbw_of (wAt_mem h) t
set_option maxRecDepth 100000 in
theorem tb_wsp : ∀ c, c < 11 → zipAll (fun w p => wAt p w && twc w) (u_ws (clsN c) (tabT c) (nfT c)) (layP c) = true := by decide +kernel
theorem tb_ws : ∀ c, c < 11 → ∀ w ∈ u_ws (clsN c) (tabT c) (nfT c), w ∈ tbw := by
  intro c hc w hw
  obtain ⟨p, h⟩ := zipAll_mem (tb_wsp c hc) w hw
  simp only [Bool.and_eq_true] at h
  exact wAt_tbw h.2 h.1
set_option maxRecDepth 100000 in
theorem tb_ty : ∀ c, c < 11 → ∀ k, k < nfT c → parseFieldDescriptor (tabT c k).2.2.1 = some (tyT c k) := by decide +kernel
set_option maxRecDepth 100000 in
theorem tb_nm : ∀ c, c < 11 → ∀ a, a < nfT c → ∀ b, b < nfT c → a ≠ b → (tabT c a).2.1 ≠ (tabT c b).2.1 := by decide +kernel
set_option maxRecDepth 100000 in
theorem tb_fin : ∀ c, c < 11 → ∀ k, k < nfT c → (tabT c k).2.2.2 = (skF (tyT c k) == 3) ∧ (tabT c k).1 = clsN c ∧ skF (tyT c k) < 4 := by decide +kernel
set_option maxRecDepth 100000 in
theorem tb_fldp : ∀ o, o < 13 → zipAll (fun e p => wAt p (.fieldLink (clsN o) e.1 (tabT e.2.1 e.2.2).1 (tabT e.2.1 e.2.2).2.1 (tabT e.2.1 e.2.2).2.2.1) && decide (e.2.1 < 11) && decide (e.2.2 < nfT e.2.1)) (fldL o) (fldP o) = true := by decide +kernel
theorem tb_fld {o : Nat} (ho : o < 13) : ∀ e ∈ fldL o, Cond.fieldLink (clsN o) e.1 (tabT e.2.1 e.2.2).1 (tabT e.2.1 e.2.2).2.1 (tabT e.2.1 e.2.2).2.2.1 ∈ tbw ∧ e.2.1 < 11 ∧ e.2.2 < nfT e.2.1 := by
  intro e he
  obtain ⟨p, h⟩ := zipAll_mem (tb_fldp o ho) e he
  simp only [Bool.and_eq_true, decide_eq_true_eq] at h
  exact ⟨wAt_tbw rfl h.1.1, h.1.2, h.2⟩
set_option maxRecDepth 100000 in
theorem tb_cstp : ∀ o, o < 13 → zipAll (fun e p => wAt p (.constant (clsN o) e.1 e.2)) (cstL o) (cstP o) = true := by decide +kernel
theorem tb_cst {o : Nat} (ho : o < 13) : ∀ e ∈ cstL o, Cond.constant (clsN o) e.1 e.2 ∈ tbw := by
  intro e he
  obtain ⟨p, h⟩ := zipAll_mem (tb_cstp o ho) e he
  exact wAt_tbw rfl h
set_option maxRecDepth 100000 in
theorem tb_cslp : ∀ o, o < 13 → zipAll (fun e p => wAt p (.constantLong (clsN o) e.1 e.2)) (cslL o) (cslP o) = true := by decide +kernel
theorem tb_csl {o : Nat} (ho : o < 13) : ∀ e ∈ cslL o, Cond.constantLong (clsN o) e.1 e.2 ∈ tbw := by
  intro e he
  obtain ⟨p, h⟩ := zipAll_mem (tb_cslp o ho) e he
  exact wAt_tbw rfl h
set_option maxRecDepth 100000 in
theorem tb_newp : ∀ o, o < 13 → zipAll (fun e p => wAt p.1 (.classLink (clsN o) e.1 (clsN e.2)) && decide (e.2 < 11) && wAt p.2.1 (.instantiable (clsN e.2) (nfT e.2)) && wAt p.2.2 (.initialized (clsN e.2))) (newL o) (newP o) = true := by decide +kernel
theorem tb_new {o : Nat} (ho : o < 13) : ∀ e ∈ newL o, Cond.classLink (clsN o) e.1 (clsN e.2) ∈ tbw ∧ e.2 < 11 ∧ Cond.instantiable (clsN e.2) (nfT e.2) ∈ tbw ∧ Cond.initialized (clsN e.2) ∈ tbw := by
  intro e he
  obtain ⟨p, h⟩ := zipAll_mem (tb_newp o ho) e he
  simp only [Bool.and_eq_true, decide_eq_true_eq] at h
  exact ⟨wAt_tbw rfl h.1.1.1, h.1.1.2, wAt_tbw rfl h.1.2, wAt_tbw rfl h.2⟩
set_option maxRecDepth 100000 in
theorem tb_ar : ∀ k, k < 96 → ∀ a, shA k = some a → (a.1 = 0 ∨ a.1 = 1 ∨ a.1 = 2 ∨ a.1 = 3 ∨ a.1 = 7 ∨ a.1 = 10) ∧ a.2 ≤ 4096 ∧ (3 ≤ a.1 → a.2 ≤ 16) := by
  have h : ∀ k, k < 96 → (match shA k with
    | some a => decide ((a.1 = 0 ∨ a.1 = 1 ∨ a.1 = 2 ∨ a.1 = 3 ∨ a.1 = 7 ∨ a.1 = 10) ∧ a.2 ≤ 4096 ∧ (3 ≤ a.1 → a.2 ≤ 16))
    | none => true) = true := by decide +kernel
  intro k hk a ha
  have h1 := h k hk
  rw [ha] at h1
  exact of_decide_eq_true h1
set_option maxRecDepth 100000 in
theorem tb_rf : ∀ k, k < 96 → ∀ j, j < 40 → Rf k j < 1000 := by decide +kernel
set_option maxRecDepth 100000 in
theorem tb_nf : ∀ c, c < 11 → nfT c < 40 := by decide +kernel
set_option maxRecDepth 100000 in
theorem tb_so : ∀ k, k < 96 → ∀ c, shO k = some c → c < 11 := by
  have h : ∀ k, k < 96 → (match shO k with
    | some c => decide (c < 11)
    | none => true) = true := by decide +kernel
  intro k hk a ha
  have h1 := h k hk
  rw [ha] at h1
  exact of_decide_eq_true h1
theorem shO_lt {k c : Nat} (h : shO k = some c) : k < 96 := by
  unfold shO at h
  split at h
  · next e => exact (List.getElem?_eq_some_iff.mp e).1
  · cases h
theorem shA_lt {k : Nat} {a : Nat × Nat} (h : shA k = some a) : k < 96 := by
  unfold shA at h
  split at h
  · next e => exact (List.getElem?_eq_some_iff.mp e).1
  · cases h
/-- what a method that is called must have of the tables -/
def okM (Y : MI) : Prop := Y.1 < 13 ∧ Y.2.2.2.1 ≤ 20 ∧ Cond.code Y.2.1 Y.2.2.1 Y.2.2.2.1 Y.2.2.2.2 ∈ tbw ∧ Cond.initialized Y.2.1.cls ∈ tbw ∧ Y.2.1.cls = clsN Y.1 ∧ plainName Y.2.1.cls = true ∧ (Y.2.1.cls ≠ "java/lang/invoke/MethodHandle" ∧ Y.2.1.cls ≠ "java/lang/invoke/VarHandle" ∧ (parseMethodDescriptor Y.2.1.desc).map (fun d => d.parameters.length) = some (nAr Y))
def okMb (Y : MI) (b : Nat) : Bool := decide (Y.1 < 13) && (decide (Y.2.2.2.1 ≤ 20) && ((wAt b (.initialized Y.2.1.cls) && (decide (Y.2.1.cls = clsN Y.1) && (plainName Y.2.1.cls && (decide (Y.2.1.cls ≠ "java/lang/invoke/MethodHandle") && (decide (Y.2.1.cls ≠ "java/lang/invoke/VarHandle") && decide ((parseMethodDescriptor Y.2.1.desc).map (fun d => d.parameters.length) = some (nAr Y)))))))))
theorem okM_of {Y : MI} {b : Nat} (c : Cond.code Y.2.1 Y.2.2.1 Y.2.2.2.1 Y.2.2.2.2 ∈ tbw) (h : okMb Y b = true) : okM Y := by
  simp only [okMb, Bool.and_eq_true, decide_eq_true_eq] at h
  obtain ⟨h1, h2, h4, h5, h6, h7, h8, h9⟩ := h
  exact ⟨h1, h2, c, wAt_tbw rfl h4, h5, h6, h7, h8, h9⟩
/-- what a call must have of the tables -/
def okC (o i : Nat) (q : Nat × MI) : Prop := match q.1 with
  | 0 => okM q.2 ∧ Cond.methodLink (clsN o) i q.2.2.1 ∈ tbw ∧ Cond.instanceMethod q.2.2.1 ∈ tbw ∧ Cond.selects (clsN q.2.1) q.2.2.1 q.2.2.1 ∈ tbw ∧ q.2.1 < 11
  | 1 => okM q.2 ∧ Cond.methodLink (clsN o) i q.2.2.1 ∈ tbw ∧ Cond.static q.2.2.1 ∈ tbw
  | 2 => okM q.2 ∧ Cond.methodLink (clsN o) i q.2.2.1 ∈ tbw ∧ Cond.instanceMethod q.2.2.1 ∈ tbw ∧ q.2.2.1.name = "<init>" ∧ q.2.2.2.2.2 = none ∧ nAr q.2 = 0
  | 3 => okM q.2 ∧ Cond.methodLinkNest (clsN o) i q.2.2.1 "RateTree" ∈ tbw ∧ Cond.instanceMethod q.2.2.1 ∈ tbw ∧ q.2.2.1.name = "<init>" ∧ q.2.2.2.2.2 = none ∧ nAr q.2 = 0
  | 4 => Cond.methodLink (clsN o) i objectInit ∈ tbw
  | 5 => Cond.methodLink (clsN o) i arraycopyName ∈ tbw
  | 6 => Cond.methodLink (clsN o) i Lib.Math.max.name ∈ tbw
  | 7 => Cond.methodLink (clsN o) i Lib.Math.min.name ∈ tbw
  | 8 => Cond.methodLink (clsN o) i Lib.MathLoose.abs_long.x ∈ tbw
  | 9 => Cond.methodLink (clsN o) i Lib.MathLoose.min_long.x ∈ tbw
  | _ => False
def okCb (o i : Nat) (q : Nat × MI) (p : List Nat) : Bool := match q.1, p with
  | 0, [l, c, n, m, s] => okMb q.2 n && (wAt l (.methodLink (clsN o) i q.2.2.1) && (wAt m (.instanceMethod q.2.2.1) && (wAt s (.selects (clsN q.2.1) q.2.2.1 q.2.2.1) && decide (q.2.1 < 11))))
  | 1, [l, c, n, m] => okMb q.2 n && (wAt l (.methodLink (clsN o) i q.2.2.1) && wAt m (.static q.2.2.1))
  | 2, [l, c, n, m] => okMb q.2 n && (wAt l (.methodLink (clsN o) i q.2.2.1) && (wAt m (.instanceMethod q.2.2.1) && (decide (q.2.2.1.name = "<init>") && (decide (q.2.2.2.2.2 = none) && decide (nAr q.2 = 0)))))
  | 3, [l, c, n, m] => okMb q.2 n && (wAt l (.methodLinkNest (clsN o) i q.2.2.1 "RateTree") && (wAt m (.instanceMethod q.2.2.1) && (decide (q.2.2.1.name = "<init>") && (decide (q.2.2.2.2.2 = none) && decide (nAr q.2 = 0)))))
  | 4, [l] => wAt l (.methodLink (clsN o) i objectInit)
  | 5, [l] => wAt l (.methodLink (clsN o) i arraycopyName)
  | 6, [l] => wAt l (.methodLink (clsN o) i Lib.Math.max.name)
  | 7, [l] => wAt l (.methodLink (clsN o) i Lib.Math.min.name)
  | 8, [l] => wAt l (.methodLink (clsN o) i Lib.MathLoose.abs_long.x)
  | 9, [l] => wAt l (.methodLink (clsN o) i Lib.MathLoose.min_long.x)
  | _, _ => false
theorem okC_of {o i : Nat} {q : Nat × MI} {p : List Nat} (c : q.1 ≤ 3 → Cond.code q.2.2.1 q.2.2.2.1 q.2.2.2.2.1 q.2.2.2.2.2 ∈ tbw) (h : okCb o i q p = true) : okC o i q := by
  obtain ⟨k, Y⟩ := q
  unfold okCb at h
  split at h
  · next e => simp only at e; subst e; simp only [Bool.and_eq_true, decide_eq_true_eq] at h; exact ⟨okM_of (c (Nat.le_of_ble_eq_true rfl)) h.1, wAt_tbw rfl h.2.1, wAt_tbw rfl h.2.2.1, wAt_tbw rfl h.2.2.2.1, h.2.2.2.2⟩
  · next e => simp only at e; subst e; simp only [Bool.and_eq_true, decide_eq_true_eq] at h; exact ⟨okM_of (c (Nat.le_of_ble_eq_true rfl)) h.1, wAt_tbw rfl h.2.1, wAt_tbw rfl h.2.2⟩
  · next e => simp only at e; subst e; simp only [Bool.and_eq_true, decide_eq_true_eq] at h; exact ⟨okM_of (c (Nat.le_of_ble_eq_true rfl)) h.1, wAt_tbw rfl h.2.1, wAt_tbw rfl h.2.2.1, h.2.2.2⟩
  · next e => simp only at e; subst e; simp only [Bool.and_eq_true, decide_eq_true_eq] at h; exact ⟨okM_of (c (Nat.le_of_ble_eq_true rfl)) h.1, wAt_tbw rfl h.2.1, wAt_tbw rfl h.2.2.1, h.2.2.2⟩
  · next e => simp only at e; subst e; exact wAt_tbw rfl h
  · next e => simp only at e; subst e; exact wAt_tbw rfl h
  · next e => simp only at e; subst e; exact wAt_tbw rfl h
  · next e => simp only at e; subst e; exact wAt_tbw rfl h
  · next e => simp only at e; subst e; exact wAt_tbw rfl h
  · next e => simp only at e; subst e; exact wAt_tbw rfl h
  · cases h
set_option maxRecDepth 100000 in
theorem cw_X9_init : Cond.code yX9_init cX9_init 2 none ∈ tbw := tbw_of (List.mem_of_getElem? (i := 64) rfl) rfl
set_option maxRecDepth 100000 in
theorem cw_X5_init : Cond.code yX5_init cX5_init 2 none ∈ tbw := tbw_of (List.mem_of_getElem? (i := 72) rfl) rfl
set_option maxRecDepth 100000 in
theorem cw_X8_init : Cond.code yX8_init cX8_init 2 none ∈ tbw := tbw_of (List.mem_of_getElem? (i := 173) rfl) rfl
set_option maxRecDepth 100000 in
theorem cw_X9_source : Cond.code yX9_source cX9_source 2 (some .int) ∈ tbw := tbw_of (List.mem_of_getElem? (i := 381) rfl) rfl
set_option maxRecDepth 100000 in
theorem cw_X9_isWithin : Cond.code yX9_isWithin cX9_isWithin 3 (some .boolean) ∈ tbw := tbw_of (List.mem_of_getElem? (i := 385) rfl) rfl
set_option maxRecDepth 100000 in
theorem cw_X9_grow : Cond.code yX9_grow cX9_grow 8 (some .int) ∈ tbw := tbw_of (List.mem_of_getElem? (i := 389) rfl) rfl
set_option maxRecDepth 100000 in
theorem cw_X5_add : Cond.code yX5_add cX5_add 8 (some .int) ∈ tbw := tbw_of (List.mem_of_getElem? (i := 393) rfl) rfl
set_option maxRecDepth 100000 in
theorem cw_X6_drop : Cond.code yX6_drop cX6_drop 1 none ∈ tbw := tbw_of (List.mem_of_getElem? (i := 397) rfl) rfl
set_option maxRecDepth 100000 in
theorem cw_X9_stage : Cond.code yX9_stage cX9_stage 5 (some .int) ∈ tbw := tbw_of (List.mem_of_getElem? (i := 401) rfl) rfl
set_option maxRecDepth 100000 in
theorem cw_X5_has : Cond.code yX5_has cX5_has 2 (some .boolean) ∈ tbw := tbw_of (List.mem_of_getElem? (i := 405) rfl) rfl
set_option maxRecDepth 100000 in
theorem cw_X9_choice : Cond.code yX9_choice cX9_choice 3 (some .int) ∈ tbw := tbw_of (List.mem_of_getElem? (i := 409) rfl) rfl
set_option maxRecDepth 100000 in
theorem cw_X9_gate : Cond.code yX9_gate cX9_gate 2 (some .int) ∈ tbw := tbw_of (List.mem_of_getElem? (i := 413) rfl) rfl
set_option maxRecDepth 100000 in
theorem cw_X9_limits : Cond.code yX9_limits cX9_limits 4 (some .int) ∈ tbw := tbw_of (List.mem_of_getElem? (i := 417) rfl) rfl
set_option maxRecDepth 100000 in
theorem cw_X9_set : Cond.code yX9_set cX9_set 4 (some .int) ∈ tbw := tbw_of (List.mem_of_getElem? (i := 422) rfl) rfl
set_option maxRecDepth 100000 in
theorem cw_X0_allows : Cond.code yX0_allows cX0_allows 2 (some .boolean) ∈ tbw := tbw_of (List.mem_of_getElem? (i := 426) rfl) rfl
set_option maxRecDepth 100000 in
theorem cw_X9_lock : Cond.code yX9_lock cX9_lock 3 (some .int) ∈ tbw := tbw_of (List.mem_of_getElem? (i := 430) rfl) rfl
set_option maxRecDepth 100000 in
theorem cw_X9_rate : Cond.code yX9_rate cX9_rate 3 (some .long) ∈ tbw := tbw_of (List.mem_of_getElem? (i := 434) rfl) rfl
set_option maxRecDepth 100000 in
theorem cw_X2_workAll : Cond.code yX2_workAll cX2_workAll 4 none ∈ tbw := tbw_of (List.mem_of_getElem? (i := 439) rfl) rfl
set_option maxRecDepth 100000 in
theorem cw_X2_work : Cond.code yX2_work cX2_work 4 none ∈ tbw := tbw_of (List.mem_of_getElem? (i := 443) rfl) rfl
set_option maxRecDepth 100000 in
theorem cw_X2_multiply : Cond.code yX2_multiply cX2_multiply 6 none ∈ tbw := tbw_of (List.mem_of_getElem? (i := 447) rfl) rfl
set_option maxRecDepth 100000 in
theorem cw_X2_sharedBy : Cond.code yX2_sharedBy cX2_sharedBy 11 (some .long) ∈ tbw := tbw_of (List.mem_of_getElem? (i := 450) rfl) rfl
set_option maxRecDepth 100000 in
theorem cw_X2_keep : Cond.code yX2_keep cX2_keep 7 none ∈ tbw := tbw_of (List.mem_of_getElem? (i := 454) rfl) rfl
set_option maxRecDepth 100000 in
theorem cw_X2_divide : Cond.code yX2_divide cX2_divide 6 none ∈ tbw := tbw_of (List.mem_of_getElem? (i := 459) rfl) rfl
set_option maxRecDepth 100000 in
theorem cw_X2_pass : Cond.code yX2_pass cX2_pass 3 none ∈ tbw := tbw_of (List.mem_of_getElem? (i := 463) rfl) rfl
set_option maxRecDepth 100000 in
theorem cw_X2_isBeyond : Cond.code yX2_isBeyond cX2_isBeyond 2 (some .boolean) ∈ tbw := tbw_of (List.mem_of_getElem? (i := 467) rfl) rfl
set_option maxRecDepth 100000 in
theorem cw_X9_about : Cond.code yX9_about cX9_about 4 (some .int) ∈ tbw := tbw_of (List.mem_of_getElem? (i := 471) rfl) rfl
set_option maxRecDepth 100000 in
theorem cw_X9_isWellNow : Cond.code yX9_isWellNow cX9_isWellNow 2 (some .boolean) ∈ tbw := tbw_of (List.mem_of_getElem? (i := 475) rfl) rfl
set_option maxRecDepth 100000 in
theorem cw_X2_isWell : Cond.code yX2_isWell cX2_isWell 3 (some .boolean) ∈ tbw := tbw_of (List.mem_of_getElem? (i := 479) rfl) rfl
set_option maxRecDepth 100000 in
theorem cw_X9_sound : Cond.code yX9_sound cX9_sound 1 (some .int) ∈ tbw := tbw_of (List.mem_of_getElem? (i := 484) rfl) rfl
set_option maxRecDepth 100000 in
theorem cw_X2_areSound : Cond.code yX2_areSound cX2_areSound 4 (some .boolean) ∈ tbw := tbw_of (List.mem_of_getElem? (i := 488) rfl) rfl
set_option maxRecDepth 100000 in
theorem cw_X9_power : Cond.code yX9_power cX9_power 4 (some .long) ∈ tbw := tbw_of (List.mem_of_getElem? (i := 493) rfl) rfl
set_option maxRecDepth 100000 in
theorem cw_X2_cut : Cond.code yX2_cut cX2_cut 2 (some .long) ∈ tbw := tbw_of (List.mem_of_getElem? (i := 497) rfl) rfl
set_option maxRecDepth 100000 in
theorem cw_X9_wish : Cond.code yX9_wish cX9_wish 6 (some .int) ∈ tbw := tbw_of (List.mem_of_getElem? (i := 501) rfl) rfl
set_option maxRecDepth 100000 in
theorem cw_X9_isMode : Cond.code yX9_isMode cX9_isMode 1 (some .boolean) ∈ tbw := tbw_of (List.mem_of_getElem? (i := 504) rfl) rfl
set_option maxRecDepth 100000 in
theorem cw_X8_add : Cond.code yX8_add cX8_add 8 (some .int) ∈ tbw := tbw_of (List.mem_of_getElem? (i := 508) rfl) rfl
set_option maxRecDepth 100000 in
theorem cw_X9_multiple : Cond.code yX9_multiple cX9_multiple 5 (some .int) ∈ tbw := tbw_of (List.mem_of_getElem? (i := 512) rfl) rfl
set_option maxRecDepth 100000 in
theorem cw_X9_miss : Cond.code yX9_miss cX9_miss 2 (some .int) ∈ tbw := tbw_of (List.mem_of_getElem? (i := 516) rfl) rfl
set_option maxRecDepth 100000 in
theorem cw_X8_has : Cond.code yX8_has cX8_has 2 (some .boolean) ∈ tbw := tbw_of (List.mem_of_getElem? (i := 520) rfl) rfl
set_option maxRecDepth 100000 in
theorem cw_X7_missIn : Cond.code yX7_missIn cX7_missIn 6 (some .int) ∈ tbw := tbw_of (List.mem_of_getElem? (i := 524) rfl) rfl
set_option maxRecDepth 100000 in
theorem cw_X2_isMultiple : Cond.code yX2_isMultiple cX2_isMultiple 6 (some .boolean) ∈ tbw := tbw_of (List.mem_of_getElem? (i := 528) rfl) rfl
set_option maxRecDepth 100000 in
theorem cw_X9_wished : Cond.code yX9_wished cX9_wished 4 (some .int) ∈ tbw := tbw_of (List.mem_of_getElem? (i := 541) rfl) rfl
set_option maxRecDepth 100000 in
theorem cw_X9_search : Cond.code yX9_search cX9_search 2 (some .int) ∈ tbw := tbw_of (List.mem_of_getElem? (i := 545) rfl) rfl
set_option maxRecDepth 100000 in
theorem cw_X5_countRows : Cond.code yX5_countRows cX5_countRows 3 (some .int) ∈ tbw := tbw_of (List.mem_of_getElem? (i := 549) rfl) rfl
set_option maxRecDepth 100000 in
theorem cw_X0_countSettings : Cond.code yX0_countSettings cX0_countSettings 1 (some .int) ∈ tbw := tbw_of (List.mem_of_getElem? (i := 553) rfl) rfl
set_option maxRecDepth 100000 in
theorem cw_X3_findBest : Cond.code yX3_findBest cX3_findBest 4 (some .boolean) ∈ tbw := tbw_of (List.mem_of_getElem? (i := 561) rfl) rfl
set_option maxRecDepth 100000 in
theorem cw_X3_begin : Cond.code yX3_begin cX3_begin 8 none ∈ tbw := tbw_of (List.mem_of_getElem? (i := 565) rfl) rfl
set_option maxRecDepth 100000 in
theorem cw_X7_lastNode : Cond.code yX7_lastNode cX7_lastNode 1 (some .int) ∈ tbw := tbw_of (List.mem_of_getElem? (i := 570) rfl) rfl
set_option maxRecDepth 100000 in
theorem cw_X3_tryFrom : Cond.code yX3_tryFrom cX3_tryFrom 8 none ∈ tbw := tbw_of (List.mem_of_getElem? (i := 578) rfl) rfl
set_option maxRecDepth 100000 in
theorem cw_X3_arrive : Cond.code yX3_arrive cX3_arrive 2 none ∈ tbw := tbw_of (List.mem_of_getElem? (i := 582) rfl) rfl
set_option maxRecDepth 100000 in
theorem cw_X3_isBetter : Cond.code yX3_isBetter cX3_isBetter 2 (some .boolean) ∈ tbw := tbw_of (List.mem_of_getElem? (i := 586) rfl) rfl
set_option maxRecDepth 100000 in
theorem cw_X3_weigh : Cond.code yX3_weigh cX3_weigh 9 none ∈ tbw := tbw_of (List.mem_of_getElem? (i := 595) rfl) rfl
set_option maxRecDepth 100000 in
theorem cw_X3_isOfUse : Cond.code yX3_isOfUse cX3_isOfUse 2 (some .boolean) ∈ tbw := tbw_of (List.mem_of_getElem? (i := 602) rfl) rfl
set_option maxRecDepth 100000 in
theorem cw_X1_drop : Cond.code yX1_drop cX1_drop 1 none ∈ tbw := tbw_of (List.mem_of_getElem? (i := 606) rfl) rfl
set_option maxRecDepth 100000 in
theorem cw_X1_take : Cond.code yX1_take cX1_take 4 none ∈ tbw := tbw_of (List.mem_of_getElem? (i := 610) rfl) rfl
set_option maxRecDepth 100000 in
theorem cw_X9_hopeless : Cond.code yX9_hopeless cX9_hopeless 2 (some .int) ∈ tbw := tbw_of (List.mem_of_getElem? (i := 615) rfl) rfl
set_option maxRecDepth 100000 in
theorem cw_X3_findHopeless : Cond.code yX3_findHopeless cX3_findHopeless 4 (some .int) ∈ tbw := tbw_of (List.mem_of_getElem? (i := 619) rfl) rfl
set_option maxRecDepth 100000 in
theorem cw_X9_planned : Cond.code yX9_planned cX9_planned 2 (some .int) ∈ tbw := tbw_of (List.mem_of_getElem? (i := 623) rfl) rfl
set_option maxRecDepth 100000 in
theorem cw_X1_isThere : Cond.code yX1_isThere cX1_isThere 1 (some .boolean) ∈ tbw := tbw_of (List.mem_of_getElem? (i := 627) rfl) rfl
set_option maxRecDepth 100000 in
theorem cw_X9_plan : Cond.code yX9_plan cX9_plan 6 (some .int) ∈ tbw := tbw_of (List.mem_of_getElem? (i := 631) rfl) rfl
set_option maxRecDepth 100000 in
theorem cw_X9_isSheet : Cond.code yX9_isSheet cX9_isSheet 1 (some .boolean) ∈ tbw := tbw_of (List.mem_of_getElem? (i := 634) rfl) rfl
set_option maxRecDepth 100000 in
theorem cw_X9_isLane : Cond.code yX9_isLane cX9_isLane 1 (some .boolean) ∈ tbw := tbw_of (List.mem_of_getElem? (i := 637) rfl) rfl
set_option maxRecDepth 100000 in
theorem cw_X4_faultAs : Cond.code yX4_faultAs cX4_faultAs 4 (some .int) ∈ tbw := tbw_of (List.mem_of_getElem? (i := 641) rfl) rfl
set_option maxRecDepth 100000 in
theorem cw_X4_isNothing : Cond.code yX4_isNothing cX4_isNothing 1 (some .boolean) ∈ tbw := tbw_of (List.mem_of_getElem? (i := 645) rfl) rfl
set_option maxRecDepth 100000 in
theorem cw_X4_hasCells : Cond.code yX4_hasCells cX4_hasCells 3 (some .boolean) ∈ tbw := tbw_of (List.mem_of_getElem? (i := 649) rfl) rfl
set_option maxRecDepth 100000 in
theorem cw_X9_fail : Cond.code yX9_fail cX9_fail 2 (some .int) ∈ tbw := tbw_of (List.mem_of_getElem? (i := 653) rfl) rfl
set_option maxRecDepth 100000 in
theorem cw_X5_allowsAll : Cond.code yX5_allowsAll cX5_allowsAll 4 (some .boolean) ∈ tbw := tbw_of (List.mem_of_getElem? (i := 657) rfl) rfl
set_option maxRecDepth 100000 in
theorem cw_X5_movesLocked : Cond.code yX5_movesLocked cX5_movesLocked 5 (some .boolean) ∈ tbw := tbw_of (List.mem_of_getElem? (i := 662) rfl) rfl
set_option maxRecDepth 100000 in
theorem cw_X9_tried : Cond.code yX9_tried cX9_tried 1 (some .int) ∈ tbw := tbw_of (List.mem_of_getElem? (i := 666) rfl) rfl
set_option maxRecDepth 100000 in
theorem cw_X9_change : Cond.code yX9_change cX9_change 1 (some .int) ∈ tbw := tbw_of (List.mem_of_getElem? (i := 670) rfl) rfl
set_option maxRecDepth 100000 in
theorem cw_X5_countOthers : Cond.code yX5_countOthers cX5_countOthers 5 (some .int) ∈ tbw := tbw_of (List.mem_of_getElem? (i := 674) rfl) rfl
set_option maxRecDepth 100000 in
theorem cw_X6_find : Cond.code yX6_find cX6_find 4 none ∈ tbw := tbw_of (List.mem_of_getElem? (i := 678) rfl) rfl
set_option maxRecDepth 100000 in
theorem cw_X6_reaches : Cond.code yX6_reaches cX6_reaches 6 (some .boolean) ∈ tbw := tbw_of (List.mem_of_getElem? (i := 682) rfl) rfl
set_option maxRecDepth 100000 in
theorem cw_X6_reachesBy : Cond.code yX6_reachesBy cX6_reachesBy 9 (some .boolean) ∈ tbw := tbw_of (List.mem_of_getElem? (i := 687) rfl) rfl
set_option maxRecDepth 100000 in
theorem cw_X9_step : Cond.code yX9_step cX9_step 2 (some .int) ∈ tbw := tbw_of (List.mem_of_getElem? (i := 691) rfl) rfl
set_option maxRecDepth 100000 in
theorem cw_X6_isFound : Cond.code yX6_isFound cX6_isFound 1 (some .boolean) ∈ tbw := tbw_of (List.mem_of_getElem? (i := 695) rfl) rfl
set_option maxRecDepth 100000 in
theorem cw_X9_go : Cond.code yX9_go cX9_go 4 (some .int) ∈ tbw := tbw_of (List.mem_of_getElem? (i := 699) rfl) rfl
set_option maxRecDepth 100000 in
theorem cw_X9_sheet : Cond.code yX9_sheet cX9_sheet 4 (some .int) ∈ tbw := tbw_of (List.mem_of_getElem? (i := 703) rfl) rfl
set_option maxRecDepth 100000 in
theorem cw_X4_renew : Cond.code yX4_renew cX4_renew 4 none ∈ tbw := tbw_of (List.mem_of_getElem? (i := 707) rfl) rfl
set_option maxRecDepth 100000 in
theorem cw_X9_lose : Cond.code yX9_lose cX9_lose 2 (some .int) ∈ tbw := tbw_of (List.mem_of_getElem? (i := 711) rfl) rfl
set_option maxRecDepth 100000 in
theorem cw_X4_drop : Cond.code yX4_drop cX4_drop 1 none ∈ tbw := tbw_of (List.mem_of_getElem? (i := 716) rfl) rfl
set_option maxRecDepth 100000 in
theorem cw_X9_put : Cond.code yX9_put cX9_put 5 (some .int) ∈ tbw := tbw_of (List.mem_of_getElem? (i := 720) rfl) rfl
set_option maxRecDepth 100000 in
theorem cw_X4_cutToLane : Cond.code yX4_cutToLane cX4_cutToLane 2 (some .int) ∈ tbw := tbw_of (List.mem_of_getElem? (i := 725) rfl) rfl
set_option maxRecDepth 100000 in
theorem cw_X9_cell : Cond.code yX9_cell cX9_cell 4 (some .long) ∈ tbw := tbw_of (List.mem_of_getElem? (i := 729) rfl) rfl
set_option maxRecDepth 100000 in
theorem cw_X9_copy : Cond.code yX9_copy cX9_copy 8 (some .int) ∈ tbw := tbw_of (List.mem_of_getElem? (i := 733) rfl) rfl
set_option maxRecDepth 100000 in
theorem cw_X9_tell : Cond.code yX9_tell cX9_tell 2 (some .int) ∈ tbw := tbw_of (List.mem_of_getElem? (i := 738) rfl) rfl
set_option maxRecDepth 100000 in
theorem cw_X9_leave : Cond.code yX9_leave cX9_leave 2 none ∈ tbw := tbw_of (List.mem_of_getElem? (i := 742) rfl) rfl
set_option maxRecDepth 100000 in
theorem cw_X9_tellChoice : Cond.code yX9_tellChoice cX9_tellChoice 2 (some .int) ∈ tbw := tbw_of (List.mem_of_getElem? (i := 746) rfl) rfl
set_option maxRecDepth 100000 in
theorem cw_X9_spread : Cond.code yX9_spread cX9_spread 3 (some .int) ∈ tbw := tbw_of (List.mem_of_getElem? (i := 750) rfl) rfl
set_option maxRecDepth 100000 in
theorem cw_X9_spreadLent : Cond.code yX9_spreadLent cX9_spreadLent 2 (some .int) ∈ tbw := tbw_of (List.mem_of_getElem? (i := 754) rfl) rfl
set_option maxRecDepth 100000 in
theorem cw_X9_as : Cond.code yX9_as cX9_as 3 (some .int) ∈ tbw := tbw_of (List.mem_of_getElem? (i := 759) rfl) rfl
set_option maxRecDepth 100000 in
theorem cw_X0_isOf : Cond.code yX0_isOf cX0_isOf 2 (some .boolean) ∈ tbw := tbw_of (List.mem_of_getElem? (i := 763) rfl) rfl
set_option maxRecDepth 100000 in
theorem cw_X9_trace : Cond.code yX9_trace cX9_trace 1 (some .int) ∈ tbw := tbw_of (List.mem_of_getElem? (i := 767) rfl) rfl
set_option maxRecDepth 100000 in
theorem cw_X9_fault : Cond.code yX9_fault cX9_fault 1 (some .int) ∈ tbw := tbw_of (List.mem_of_getElem? (i := 771) rfl) rfl
set_option maxRecDepth 100000 in
theorem cw_X9_told : Cond.code yX9_told cX9_told 2 (some .int) ∈ tbw := tbw_of (List.mem_of_getElem? (i := 775) rfl) rfl
set_option maxRecDepth 100000 in
theorem cw_X9_countMet : Cond.code yX9_countMet cX9_countMet 4 (some .int) ∈ tbw := tbw_of (List.mem_of_getElem? (i := 779) rfl) rfl
set_option maxRecDepth 100000 in
theorem cw_X10_init : Cond.code yX10_init cX10_init 2 none ∈ tbw := tbw_of (List.mem_of_getElem? (i := 784) rfl) rfl
set_option maxRecDepth 100000 in
theorem cw_X10_source : Cond.code yX10_source cX10_source 2 (some .int) ∈ tbw := tbw_of (List.mem_of_getElem? (i := 905) rfl) rfl
set_option maxRecDepth 100000 in
theorem cw_X10_in : Cond.code yX10_in cX10_in 6 (some .boolean) ∈ tbw := tbw_of (List.mem_of_getElem? (i := 909) rfl) rfl
set_option maxRecDepth 100000 in
theorem cw_X10_addNode : Cond.code yX10_addNode cX10_addNode 6 (some .int) ∈ tbw := tbw_of (List.mem_of_getElem? (i := 913) rfl) rfl
set_option maxRecDepth 100000 in
theorem cw_X10_stage : Cond.code yX10_stage cX10_stage 5 (some .int) ∈ tbw := tbw_of (List.mem_of_getElem? (i := 918) rfl) rfl
set_option maxRecDepth 100000 in
theorem cw_X10_noNode : Cond.code yX10_noNode cX10_noNode 2 (some .boolean) ∈ tbw := tbw_of (List.mem_of_getElem? (i := 922) rfl) rfl
set_option maxRecDepth 100000 in
theorem cw_X10_choice : Cond.code yX10_choice cX10_choice 3 (some .int) ∈ tbw := tbw_of (List.mem_of_getElem? (i := 928) rfl) rfl
set_option maxRecDepth 100000 in
theorem cw_X10_gate : Cond.code yX10_gate cX10_gate 2 (some .int) ∈ tbw := tbw_of (List.mem_of_getElem? (i := 932) rfl) rfl
set_option maxRecDepth 100000 in
theorem cw_X10_limits : Cond.code yX10_limits cX10_limits 4 (some .int) ∈ tbw := tbw_of (List.mem_of_getElem? (i := 936) rfl) rfl
set_option maxRecDepth 100000 in
theorem cw_X10_set : Cond.code yX10_set cX10_set 4 (some .int) ∈ tbw := tbw_of (List.mem_of_getElem? (i := 940) rfl) rfl
set_option maxRecDepth 100000 in
theorem cw_X10_lock : Cond.code yX10_lock cX10_lock 4 (some .int) ∈ tbw := tbw_of (List.mem_of_getElem? (i := 944) rfl) rfl
set_option maxRecDepth 100000 in
theorem cw_X10_rate : Cond.code yX10_rate cX10_rate 3 (some .long) ∈ tbw := tbw_of (List.mem_of_getElem? (i := 948) rfl) rfl
set_option maxRecDepth 100000 in
theorem cw_X10_lost : Cond.code yX10_lost cX10_lost 0 (some .long) ∈ tbw := tbw_of (List.mem_of_getElem? (i := 951) rfl) rfl
set_option maxRecDepth 100000 in
theorem cw_X10_layAll : Cond.code yX10_layAll cX10_layAll 2 none ∈ tbw := tbw_of (List.mem_of_getElem? (i := 956) rfl) rfl
set_option maxRecDepth 100000 in
theorem cw_X10_workFrom : Cond.code yX10_workFrom cX10_workFrom 3 none ∈ tbw := tbw_of (List.mem_of_getElem? (i := 960) rfl) rfl
set_option maxRecDepth 100000 in
theorem cw_X10_work : Cond.code yX10_work cX10_work 4 none ∈ tbw := tbw_of (List.mem_of_getElem? (i := 964) rfl) rfl
set_option maxRecDepth 100000 in
theorem cw_X10_follow : Cond.code yX10_follow cX10_follow 3 none ∈ tbw := tbw_of (List.mem_of_getElem? (i := 968) rfl) rfl
set_option maxRecDepth 100000 in
theorem cw_X10_become : Cond.code yX10_become cX10_become 8 none ∈ tbw := tbw_of (List.mem_of_getElem? (i := 972) rfl) rfl
set_option maxRecDepth 100000 in
theorem cw_X10_common : Cond.code yX10_common cX10_common 10 (some .long) ∈ tbw := tbw_of (List.mem_of_getElem? (i := 975) rfl) rfl
set_option maxRecDepth 100000 in
theorem cw_X10_about : Cond.code yX10_about cX10_about 3 (some .int) ∈ tbw := tbw_of (List.mem_of_getElem? (i := 979) rfl) rfl
set_option maxRecDepth 100000 in
theorem cw_X10_isWell : Cond.code yX10_isWell cX10_isWell 2 (some .boolean) ∈ tbw := tbw_of (List.mem_of_getElem? (i := 983) rfl) rfl
set_option maxRecDepth 100000 in
theorem cw_X10_sound : Cond.code yX10_sound cX10_sound 1 (some .int) ∈ tbw := tbw_of (List.mem_of_getElem? (i := 987) rfl) rfl
set_option maxRecDepth 100000 in
theorem cw_X10_isSound : Cond.code yX10_isSound cX10_isSound 3 (some .boolean) ∈ tbw := tbw_of (List.mem_of_getElem? (i := 991) rfl) rfl
set_option maxRecDepth 100000 in
theorem cw_X10_power : Cond.code yX10_power cX10_power 1 (some .long) ∈ tbw := tbw_of (List.mem_of_getElem? (i := 995) rfl) rfl
set_option maxRecDepth 100000 in
theorem cw_X10_powerOf : Cond.code yX10_powerOf cX10_powerOf 4 (some .long) ∈ tbw := tbw_of (List.mem_of_getElem? (i := 999) rfl) rfl
set_option maxRecDepth 100000 in
theorem cw_X10_wish : Cond.code yX10_wish cX10_wish 6 (some .int) ∈ tbw := tbw_of (List.mem_of_getElem? (i := 1003) rfl) rfl
set_option maxRecDepth 100000 in
theorem cw_X10_noMode : Cond.code yX10_noMode cX10_noMode 1 (some .boolean) ∈ tbw := tbw_of (List.mem_of_getElem? (i := 1006) rfl) rfl
set_option maxRecDepth 100000 in
theorem cw_X10_addWish : Cond.code yX10_addWish cX10_addWish 7 (some .int) ∈ tbw := tbw_of (List.mem_of_getElem? (i := 1012) rfl) rfl
set_option maxRecDepth 100000 in
theorem cw_X10_multiple : Cond.code yX10_multiple cX10_multiple 5 (some .int) ∈ tbw := tbw_of (List.mem_of_getElem? (i := 1016) rfl) rfl
set_option maxRecDepth 100000 in
theorem cw_X10_miss : Cond.code yX10_miss cX10_miss 2 (some .int) ∈ tbw := tbw_of (List.mem_of_getElem? (i := 1021) rfl) rfl
set_option maxRecDepth 100000 in
theorem cw_X10_noWish : Cond.code yX10_noWish cX10_noWish 2 (some .boolean) ∈ tbw := tbw_of (List.mem_of_getElem? (i := 1025) rfl) rfl
set_option maxRecDepth 100000 in
theorem cw_X10_missOf : Cond.code yX10_missOf cX10_missOf 13 (some .int) ∈ tbw := tbw_of (List.mem_of_getElem? (i := 1029) rfl) rfl
set_option maxRecDepth 100000 in
theorem cw_X10_wished : Cond.code yX10_wished cX10_wished 3 (some .int) ∈ tbw := tbw_of (List.mem_of_getElem? (i := 1034) rfl) rfl
set_option maxRecDepth 100000 in
theorem cw_X10_search : Cond.code yX10_search cX10_search 4 (some .int) ∈ tbw := tbw_of (List.mem_of_getElem? (i := 1038) rfl) rfl
set_option maxRecDepth 100000 in
theorem cw_X10_rows : Cond.code yX10_rows cX10_rows 4 (some .int) ∈ tbw := tbw_of (List.mem_of_getElem? (i := 1042) rfl) rfl
set_option maxRecDepth 100000 in
theorem cw_X10_layFirst : Cond.code yX10_layFirst cX10_layFirst 2 none ∈ tbw := tbw_of (List.mem_of_getElem? (i := 1046) rfl) rfl
set_option maxRecDepth 100000 in
theorem cw_X10_judge : Cond.code yX10_judge cX10_judge 9 none ∈ tbw := tbw_of (List.mem_of_getElem? (i := 1050) rfl) rfl
set_option maxRecDepth 100000 in
theorem cw_X10_goesOn : Cond.code yX10_goesOn cX10_goesOn 2 (some .boolean) ∈ tbw := tbw_of (List.mem_of_getElem? (i := 1054) rfl) rfl
set_option maxRecDepth 100000 in
theorem cw_X10_hopeless : Cond.code yX10_hopeless cX10_hopeless 6 (some .int) ∈ tbw := tbw_of (List.mem_of_getElem? (i := 1058) rfl) rfl
set_option maxRecDepth 100000 in
theorem cw_X10_planned : Cond.code yX10_planned cX10_planned 2 (some .int) ∈ tbw := tbw_of (List.mem_of_getElem? (i := 1062) rfl) rfl
set_option maxRecDepth 100000 in
theorem cw_X10_tried : Cond.code yX10_tried cX10_tried 1 (some .int) ∈ tbw := tbw_of (List.mem_of_getElem? (i := 1066) rfl) rfl
set_option maxRecDepth 100000 in
theorem cw_X10_sheet : Cond.code yX10_sheet cX10_sheet 5 (some .int) ∈ tbw := tbw_of (List.mem_of_getElem? (i := 1070) rfl) rfl
set_option maxRecDepth 100000 in
theorem cw_X10_noSheet : Cond.code yX10_noSheet cX10_noSheet 1 (some .boolean) ∈ tbw := tbw_of (List.mem_of_getElem? (i := 1073) rfl) rfl
set_option maxRecDepth 100000 in
theorem cw_X10_refused : Cond.code yX10_refused cX10_refused 2 (some .int) ∈ tbw := tbw_of (List.mem_of_getElem? (i := 1078) rfl) rfl
set_option maxRecDepth 100000 in
theorem cw_X10_failed : Cond.code yX10_failed cX10_failed 2 (some .int) ∈ tbw := tbw_of (List.mem_of_getElem? (i := 1082) rfl) rfl
set_option maxRecDepth 100000 in
theorem cw_X10_lose : Cond.code yX10_lose cX10_lose 3 (some .int) ∈ tbw := tbw_of (List.mem_of_getElem? (i := 1086) rfl) rfl
set_option maxRecDepth 100000 in
theorem cw_X10_put : Cond.code yX10_put cX10_put 4 (some .int) ∈ tbw := tbw_of (List.mem_of_getElem? (i := 1090) rfl) rfl
set_option maxRecDepth 100000 in
theorem cw_X10_noCell : Cond.code yX10_noCell cX10_noCell 3 (some .int) ∈ tbw := tbw_of (List.mem_of_getElem? (i := 1094) rfl) rfl
set_option maxRecDepth 100000 in
theorem cw_X10_cell : Cond.code yX10_cell cX10_cell 4 (some .long) ∈ tbw := tbw_of (List.mem_of_getElem? (i := 1098) rfl) rfl
set_option maxRecDepth 100000 in
theorem cw_X10_failedLong : Cond.code yX10_failedLong cX10_failedLong 2 (some .long) ∈ tbw := tbw_of (List.mem_of_getElem? (i := 1102) rfl) rfl
set_option maxRecDepth 100000 in
theorem cw_X10_copy : Cond.code yX10_copy cX10_copy 7 (some .int) ∈ tbw := tbw_of (List.mem_of_getElem? (i := 1106) rfl) rfl
set_option maxRecDepth 100000 in
theorem cw_X10_isBeyond : Cond.code yX10_isBeyond cX10_isBeyond 3 (some .boolean) ∈ tbw := tbw_of (List.mem_of_getElem? (i := 1109) rfl) rfl
set_option maxRecDepth 100000 in
theorem cw_X10_plan : Cond.code yX10_plan cX10_plan 6 (some .int) ∈ tbw := tbw_of (List.mem_of_getElem? (i := 1113) rfl) rfl
set_option maxRecDepth 100000 in
theorem cw_X10_refusalOf : Cond.code yX10_refusalOf cX10_refusalOf 3 (some .int) ∈ tbw := tbw_of (List.mem_of_getElem? (i := 1117) rfl) rfl
set_option maxRecDepth 100000 in
theorem cw_X10_change : Cond.code yX10_change cX10_change 3 (some .int) ∈ tbw := tbw_of (List.mem_of_getElem? (i := 1121) rfl) rfl
set_option maxRecDepth 100000 in
theorem cw_X10_isOtherLocked : Cond.code yX10_isOtherLocked cX10_isOtherLocked 3 (some .boolean) ∈ tbw := tbw_of (List.mem_of_getElem? (i := 1125) rfl) rfl
set_option maxRecDepth 100000 in
theorem cw_X10_countOthers : Cond.code yX10_countOthers cX10_countOthers 3 (some .int) ∈ tbw := tbw_of (List.mem_of_getElem? (i := 1129) rfl) rfl
set_option maxRecDepth 100000 in
theorem cw_X10_findLeads : Cond.code yX10_findLeads cX10_findLeads 5 none ∈ tbw := tbw_of (List.mem_of_getElem? (i := 1133) rfl) rfl
set_option maxRecDepth 100000 in
theorem cw_X10_isSoundWith : Cond.code yX10_isSoundWith cX10_isSoundWith 3 (some .boolean) ∈ tbw := tbw_of (List.mem_of_getElem? (i := 1137) rfl) rfl
set_option maxRecDepth 100000 in
theorem cw_X10_step : Cond.code yX10_step cX10_step 2 (some .int) ∈ tbw := tbw_of (List.mem_of_getElem? (i := 1141) rfl) rfl
set_option maxRecDepth 100000 in
theorem cw_X10_go : Cond.code yX10_go cX10_go 3 (some .int) ∈ tbw := tbw_of (List.mem_of_getElem? (i := 1145) rfl) rfl
set_option maxRecDepth 100000 in
theorem cw_X10_tell : Cond.code yX10_tell cX10_tell 3 (some .int) ∈ tbw := tbw_of (List.mem_of_getElem? (i := 1149) rfl) rfl
set_option maxRecDepth 100000 in
theorem cw_X10_traced : Cond.code yX10_traced cX10_traced 2 none ∈ tbw := tbw_of (List.mem_of_getElem? (i := 1153) rfl) rfl
set_option maxRecDepth 100000 in
theorem cw_X10_spread : Cond.code yX10_spread cX10_spread 2 (some .int) ∈ tbw := tbw_of (List.mem_of_getElem? (i := 1157) rfl) rfl
set_option maxRecDepth 100000 in
theorem cw_X10_as : Cond.code yX10_as cX10_as 3 (some .int) ∈ tbw := tbw_of (List.mem_of_getElem? (i := 1161) rfl) rfl
set_option maxRecDepth 100000 in
theorem cw_X10_trace : Cond.code yX10_trace cX10_trace 1 (some .int) ∈ tbw := tbw_of (List.mem_of_getElem? (i := 1166) rfl) rfl
set_option maxRecDepth 100000 in
theorem cw_X10_fault : Cond.code yX10_fault cX10_fault 1 (some .int) ∈ tbw := tbw_of (List.mem_of_getElem? (i := 1170) rfl) rfl
set_option maxRecDepth 100000 in
theorem cw_X10_told : Cond.code yX10_told cX10_told 4 (some .int) ∈ tbw := tbw_of (List.mem_of_getElem? (i := 1174) rfl) rfl
set_option maxRecDepth 100000 in
theorem cw_X0_init : Cond.code yX0_init cX0_init 1 none ∈ tbw := tbw_of (List.mem_of_getElem? (i := 79) rfl) rfl
set_option maxRecDepth 100000 in
theorem cw_X2_init : Cond.code yX2_init cX2_init 1 none ∈ tbw := tbw_of (List.mem_of_getElem? (i := 155) rfl) rfl
set_option maxRecDepth 100000 in
theorem cw_X7_init : Cond.code yX7_init cX7_init 1 none ∈ tbw := tbw_of (List.mem_of_getElem? (i := 180) rfl) rfl
set_option maxRecDepth 100000 in
theorem cw_X3_init : Cond.code yX3_init cX3_init 1 none ∈ tbw := tbw_of (List.mem_of_getElem? (i := 228) rfl) rfl
set_option maxRecDepth 100000 in
theorem cw_X1_init : Cond.code yX1_init cX1_init 1 none ∈ tbw := tbw_of (List.mem_of_getElem? (i := 288) rfl) rfl
set_option maxRecDepth 100000 in
theorem cw_X6_init : Cond.code yX6_init cX6_init 1 none ∈ tbw := tbw_of (List.mem_of_getElem? (i := 303) rfl) rfl
set_option maxRecDepth 100000 in
theorem cw_X4_init : Cond.code yX4_init cX4_init 1 none ∈ tbw := tbw_of (List.mem_of_getElem? (i := 336) rfl) rfl
set_option maxRecDepth 100000 in
theorem tb_cw0 : ∀ e ∈ invL 0, e.2.1 ≤ 3 → Cond.code e.2.2.2.1 e.2.2.2.2.1 e.2.2.2.2.2.1 e.2.2.2.2.2.2 ∈ tbw := List.forall_mem_cons.mpr ⟨fun h => absurd h (by decide), fun _ h => absurd h List.not_mem_nil⟩
set_option maxRecDepth 100000 in
theorem tb_cw1 : ∀ e ∈ invL 1, e.2.1 ≤ 3 → Cond.code e.2.2.2.1 e.2.2.2.2.1 e.2.2.2.2.2.1 e.2.2.2.2.2.2 ∈ tbw := List.forall_mem_cons.mpr ⟨fun h => absurd h (by decide), List.forall_mem_cons.mpr ⟨fun h => absurd h (by decide), fun _ h => absurd h List.not_mem_nil⟩⟩
set_option maxRecDepth 100000 in
theorem tb_cw2 : ∀ e ∈ invL 2, e.2.1 ≤ 3 → Cond.code e.2.2.2.1 e.2.2.2.2.1 e.2.2.2.2.2.1 e.2.2.2.2.2.2 ∈ tbw := List.forall_mem_cons.mpr ⟨fun h => absurd h (by decide), List.forall_mem_cons.mpr ⟨fun _ => cw_X2_work, List.forall_mem_cons.mpr ⟨fun _ => cw_X2_isWell, List.forall_mem_cons.mpr ⟨fun _ => cw_X2_multiply, List.forall_mem_cons.mpr ⟨fun _ => cw_X2_divide, List.forall_mem_cons.mpr ⟨fun _ => cw_X2_pass, List.forall_mem_cons.mpr ⟨fun _ => cw_X2_keep, List.forall_mem_cons.mpr ⟨fun _ => cw_X2_sharedBy, List.forall_mem_cons.mpr ⟨fun _ => cw_X2_isBeyond, fun _ h => absurd h List.not_mem_nil⟩⟩⟩⟩⟩⟩⟩⟩⟩
set_option maxRecDepth 100000 in
theorem tb_cw3 : ∀ e ∈ invL 3, e.2.1 ≤ 3 → Cond.code e.2.2.2.1 e.2.2.2.2.1 e.2.2.2.2.2.1 e.2.2.2.2.2.2 ∈ tbw := List.forall_mem_cons.mpr ⟨fun h => absurd h (by decide), List.forall_mem_cons.mpr ⟨fun _ => cw_X2_init, List.forall_mem_cons.mpr ⟨fun _ => cw_X3_begin, List.forall_mem_cons.mpr ⟨fun _ => cw_X3_tryFrom, List.forall_mem_cons.mpr ⟨fun _ => cw_X5_countRows, List.forall_mem_cons.mpr ⟨fun _ => cw_X7_lastNode, List.forall_mem_cons.mpr ⟨fun _ => cw_X3_arrive, List.forall_mem_cons.mpr ⟨fun _ => cw_X2_work, List.forall_mem_cons.mpr ⟨fun _ => cw_X2_isWell, List.forall_mem_cons.mpr ⟨fun _ => cw_X3_weigh, List.forall_mem_cons.mpr ⟨fun _ => cw_X3_isOfUse, List.forall_mem_cons.mpr ⟨fun _ => cw_X7_missIn, List.forall_mem_cons.mpr ⟨fun h => absurd h (by decide), List.forall_mem_cons.mpr ⟨fun _ => cw_X2_cut, List.forall_mem_cons.mpr ⟨fun _ => cw_X3_isBetter, List.forall_mem_cons.mpr ⟨fun h => absurd h (by decide), fun _ h => absurd h List.not_mem_nil⟩⟩⟩⟩⟩⟩⟩⟩⟩⟩⟩⟩⟩⟩⟩⟩
set_option maxRecDepth 100000 in
theorem tb_cw4 : ∀ e ∈ invL 4, e.2.1 ≤ 3 → Cond.code e.2.2.2.1 e.2.2.2.2.1 e.2.2.2.2.2.1 e.2.2.2.2.2.2 ∈ tbw := List.forall_mem_cons.mpr ⟨fun h => absurd h (by decide), List.forall_mem_cons.mpr ⟨fun _ => cw_X4_isNothing, List.forall_mem_cons.mpr ⟨fun _ => cw_X4_hasCells, fun _ h => absurd h List.not_mem_nil⟩⟩⟩
set_option maxRecDepth 100000 in
theorem tb_cw5 : ∀ e ∈ invL 5, e.2.1 ≤ 3 → Cond.code e.2.2.2.1 e.2.2.2.2.1 e.2.2.2.2.2.1 e.2.2.2.2.2.2 ∈ tbw := List.forall_mem_cons.mpr ⟨fun h => absurd h (by decide), List.forall_mem_cons.mpr ⟨fun _ => cw_X0_init, List.forall_mem_cons.mpr ⟨fun _ => cw_X0_countSettings, List.forall_mem_cons.mpr ⟨fun h => absurd h (by decide), List.forall_mem_cons.mpr ⟨fun _ => cw_X0_allows, fun _ h => absurd h List.not_mem_nil⟩⟩⟩⟩⟩
set_option maxRecDepth 100000 in
theorem tb_cw6 : ∀ e ∈ invL 6, e.2.1 ≤ 3 → Cond.code e.2.2.2.1 e.2.2.2.2.1 e.2.2.2.2.2.1 e.2.2.2.2.2.2 ∈ tbw := List.forall_mem_cons.mpr ⟨fun h => absurd h (by decide), List.forall_mem_cons.mpr ⟨fun _ => cw_X2_init, List.forall_mem_cons.mpr ⟨fun _ => cw_X6_reaches, List.forall_mem_cons.mpr ⟨fun _ => cw_X2_areSound, List.forall_mem_cons.mpr ⟨fun _ => cw_X6_reachesBy, fun _ h => absurd h List.not_mem_nil⟩⟩⟩⟩⟩
set_option maxRecDepth 100000 in
theorem tb_cw7 : ∀ e ∈ invL 7, e.2.1 ≤ 3 → Cond.code e.2.2.2.1 e.2.2.2.2.1 e.2.2.2.2.2.1 e.2.2.2.2.2.2 ∈ tbw := List.forall_mem_cons.mpr ⟨fun h => absurd h (by decide), List.forall_mem_cons.mpr ⟨fun _ => cw_X2_isMultiple, List.forall_mem_cons.mpr ⟨fun h => absurd h (by decide), List.forall_mem_cons.mpr ⟨fun h => absurd h (by decide), List.forall_mem_cons.mpr ⟨fun h => absurd h (by decide), fun _ h => absurd h List.not_mem_nil⟩⟩⟩⟩⟩
set_option maxRecDepth 100000 in
theorem tb_cw8 : ∀ e ∈ invL 8, e.2.1 ≤ 3 → Cond.code e.2.2.2.1 e.2.2.2.2.1 e.2.2.2.2.2.1 e.2.2.2.2.2.2 ∈ tbw := List.forall_mem_cons.mpr ⟨fun h => absurd h (by decide), List.forall_mem_cons.mpr ⟨fun _ => cw_X7_init, fun _ h => absurd h List.not_mem_nil⟩⟩
set_option maxRecDepth 100000 in
theorem tb_cw9 : ∀ e ∈ invL 9, e.2.1 ≤ 3 → Cond.code e.2.2.2.1 e.2.2.2.2.1 e.2.2.2.2.2.1 e.2.2.2.2.2.2 ∈ tbw := List.forall_mem_cons.mpr ⟨fun h => absurd h (by decide), List.forall_mem_cons.mpr ⟨fun _ => cw_X5_init, List.forall_mem_cons.mpr ⟨fun _ => cw_X2_init, List.forall_mem_cons.mpr ⟨fun _ => cw_X8_init, List.forall_mem_cons.mpr ⟨fun _ => cw_X3_init, List.forall_mem_cons.mpr ⟨fun _ => cw_X1_init, List.forall_mem_cons.mpr ⟨fun _ => cw_X6_init, List.forall_mem_cons.mpr ⟨fun _ => cw_X4_init, List.forall_mem_cons.mpr ⟨fun _ => cw_X9_isWithin, List.forall_mem_cons.mpr ⟨fun _ => cw_X9_grow, List.forall_mem_cons.mpr ⟨fun _ => cw_X5_has, List.forall_mem_cons.mpr ⟨fun _ => cw_X6_drop, List.forall_mem_cons.mpr ⟨fun _ => cw_X0_allows, List.forall_mem_cons.mpr ⟨fun _ => cw_X2_workAll, List.forall_mem_cons.mpr ⟨fun _ => cw_X2_isBeyond, List.forall_mem_cons.mpr ⟨fun _ => cw_X9_isWellNow, List.forall_mem_cons.mpr ⟨fun _ => cw_X2_areSound, List.forall_mem_cons.mpr ⟨fun _ => cw_X2_cut, List.forall_mem_cons.mpr ⟨fun _ => cw_X9_isMode, List.forall_mem_cons.mpr ⟨fun _ => cw_X8_add, List.forall_mem_cons.mpr ⟨fun _ => cw_X8_has, List.forall_mem_cons.mpr ⟨fun _ => cw_X7_missIn, List.forall_mem_cons.mpr ⟨fun _ => cw_X5_countRows, List.forall_mem_cons.mpr ⟨fun _ => cw_X3_findBest, List.forall_mem_cons.mpr ⟨fun _ => cw_X1_drop, List.forall_mem_cons.mpr ⟨fun _ => cw_X1_take, List.forall_mem_cons.mpr ⟨fun _ => cw_X3_findHopeless, List.forall_mem_cons.mpr ⟨fun _ => cw_X1_isThere, List.forall_mem_cons.mpr ⟨fun _ => cw_X9_isSheet, List.forall_mem_cons.mpr ⟨fun _ => cw_X9_isLane, List.forall_mem_cons.mpr ⟨fun _ => cw_X4_faultAs, List.forall_mem_cons.mpr ⟨fun _ => cw_X9_fail, List.forall_mem_cons.mpr ⟨fun _ => cw_X5_allowsAll, List.forall_mem_cons.mpr ⟨fun _ => cw_X5_movesLocked, List.forall_mem_cons.mpr ⟨fun _ => cw_X5_countOthers, List.forall_mem_cons.mpr ⟨fun _ => cw_X6_find, List.forall_mem_cons.mpr ⟨fun _ => cw_X6_isFound, List.forall_mem_cons.mpr ⟨fun _ => cw_X4_renew, List.forall_mem_cons.mpr ⟨fun _ => cw_X4_isNothing, List.forall_mem_cons.mpr ⟨fun _ => cw_X4_drop, List.forall_mem_cons.mpr ⟨fun _ => cw_X4_hasCells, List.forall_mem_cons.mpr ⟨fun _ => cw_X4_cutToLane, List.forall_mem_cons.mpr ⟨fun h => absurd h (by decide), List.forall_mem_cons.mpr ⟨fun _ => cw_X9_leave, List.forall_mem_cons.mpr ⟨fun _ => cw_X9_tellChoice, List.forall_mem_cons.mpr ⟨fun _ => cw_X9_spreadLent, List.forall_mem_cons.mpr ⟨fun _ => cw_X0_isOf, List.forall_mem_cons.mpr ⟨fun _ => cw_X9_countMet, List.forall_mem_cons.mpr ⟨fun _ => cw_X5_add, List.forall_mem_cons.mpr ⟨fun _ => cw_X2_isWell, List.forall_mem_cons.mpr ⟨fun _ => cw_X0_countSettings, fun _ h => absurd h List.not_mem_nil⟩⟩⟩⟩⟩⟩⟩⟩⟩⟩⟩⟩⟩⟩⟩⟩⟩⟩⟩⟩⟩⟩⟩⟩⟩⟩⟩⟩⟩⟩⟩⟩⟩⟩⟩⟩⟩⟩⟩⟩⟩⟩⟩⟩⟩⟩⟩⟩⟩⟩⟩
set_option maxRecDepth 100000 in
theorem tb_cw10 : ∀ e ∈ invL 10, e.2.1 ≤ 3 → Cond.code e.2.2.2.1 e.2.2.2.2.1 e.2.2.2.2.2.1 e.2.2.2.2.2.2 ∈ tbw := List.forall_mem_cons.mpr ⟨fun h => absurd h (by decide), List.forall_mem_cons.mpr ⟨fun _ => cw_X10_lost, List.forall_mem_cons.mpr ⟨fun _ => cw_X10_in, List.forall_mem_cons.mpr ⟨fun _ => cw_X10_addNode, List.forall_mem_cons.mpr ⟨fun _ => cw_X10_noNode, List.forall_mem_cons.mpr ⟨fun _ => cw_X10_common, List.forall_mem_cons.mpr ⟨fun _ => cw_X10_follow, List.forall_mem_cons.mpr ⟨fun _ => cw_X10_become, List.forall_mem_cons.mpr ⟨fun _ => cw_X10_work, List.forall_mem_cons.mpr ⟨fun _ => cw_X10_workFrom, List.forall_mem_cons.mpr ⟨fun _ => cw_X10_isWell, List.forall_mem_cons.mpr ⟨fun _ => cw_X10_layAll, List.forall_mem_cons.mpr ⟨fun _ => cw_X10_isSound, List.forall_mem_cons.mpr ⟨fun _ => cw_X10_powerOf, List.forall_mem_cons.mpr ⟨fun _ => cw_X10_noMode, List.forall_mem_cons.mpr ⟨fun _ => cw_X10_addWish, List.forall_mem_cons.mpr ⟨fun _ => cw_X10_noWish, List.forall_mem_cons.mpr ⟨fun _ => cw_X10_missOf, List.forall_mem_cons.mpr ⟨fun _ => cw_X10_rows, List.forall_mem_cons.mpr ⟨fun _ => cw_X10_layFirst, List.forall_mem_cons.mpr ⟨fun _ => cw_X10_judge, List.forall_mem_cons.mpr ⟨fun _ => cw_X10_goesOn, List.forall_mem_cons.mpr ⟨fun _ => cw_X10_noSheet, List.forall_mem_cons.mpr ⟨fun _ => cw_X10_refused, List.forall_mem_cons.mpr ⟨fun _ => cw_X10_failed, List.forall_mem_cons.mpr ⟨fun _ => cw_X10_noCell, List.forall_mem_cons.mpr ⟨fun _ => cw_X10_failedLong, List.forall_mem_cons.mpr ⟨fun _ => cw_X10_isBeyond, List.forall_mem_cons.mpr ⟨fun _ => cw_X10_refusalOf, List.forall_mem_cons.mpr ⟨fun _ => cw_X10_isSoundWith, List.forall_mem_cons.mpr ⟨fun _ => cw_X10_isOtherLocked, List.forall_mem_cons.mpr ⟨fun _ => cw_X10_countOthers, List.forall_mem_cons.mpr ⟨fun _ => cw_X10_findLeads, List.forall_mem_cons.mpr ⟨fun _ => cw_X10_traced, fun _ h => absurd h List.not_mem_nil⟩⟩⟩⟩⟩⟩⟩⟩⟩⟩⟩⟩⟩⟩⟩⟩⟩⟩⟩⟩⟩⟩⟩⟩⟩⟩⟩⟩⟩⟩⟩⟩⟩⟩
set_option maxRecDepth 100000 in
theorem tb_cw11 : ∀ e ∈ invL 11, e.2.1 ≤ 3 → Cond.code e.2.2.2.1 e.2.2.2.2.1 e.2.2.2.2.2.1 e.2.2.2.2.2.2 ∈ tbw := List.forall_mem_cons.mpr ⟨fun _ => cw_X9_init, List.forall_mem_cons.mpr ⟨fun _ => cw_X10_init, List.forall_mem_cons.mpr ⟨fun _ => cw_X9_source, List.forall_mem_cons.mpr ⟨fun _ => cw_X10_source, List.forall_mem_cons.mpr ⟨fun _ => cw_X9_stage, List.forall_mem_cons.mpr ⟨fun _ => cw_X10_stage, List.forall_mem_cons.mpr ⟨fun _ => cw_X9_choice, List.forall_mem_cons.mpr ⟨fun _ => cw_X10_choice, List.forall_mem_cons.mpr ⟨fun _ => cw_X9_gate, List.forall_mem_cons.mpr ⟨fun _ => cw_X10_gate, List.forall_mem_cons.mpr ⟨fun _ => cw_X9_limits, List.forall_mem_cons.mpr ⟨fun _ => cw_X10_limits, List.forall_mem_cons.mpr ⟨fun _ => cw_X9_set, List.forall_mem_cons.mpr ⟨fun _ => cw_X10_set, List.forall_mem_cons.mpr ⟨fun _ => cw_X9_lock, List.forall_mem_cons.mpr ⟨fun _ => cw_X10_lock, List.forall_mem_cons.mpr ⟨fun _ => cw_X9_rate, List.forall_mem_cons.mpr ⟨fun _ => cw_X10_rate, List.forall_mem_cons.mpr ⟨fun _ => cw_X9_about, List.forall_mem_cons.mpr ⟨fun _ => cw_X10_about, List.forall_mem_cons.mpr ⟨fun _ => cw_X9_sound, List.forall_mem_cons.mpr ⟨fun _ => cw_X10_sound, List.forall_mem_cons.mpr ⟨fun _ => cw_X9_power, List.forall_mem_cons.mpr ⟨fun _ => cw_X10_power, List.forall_mem_cons.mpr ⟨fun _ => cw_X9_wish, List.forall_mem_cons.mpr ⟨fun _ => cw_X10_wish, List.forall_mem_cons.mpr ⟨fun _ => cw_X9_multiple, List.forall_mem_cons.mpr ⟨fun _ => cw_X10_multiple, List.forall_mem_cons.mpr ⟨fun _ => cw_X9_miss, List.forall_mem_cons.mpr ⟨fun _ => cw_X10_miss, List.forall_mem_cons.mpr ⟨fun _ => cw_X9_wished, List.forall_mem_cons.mpr ⟨fun _ => cw_X10_wished, List.forall_mem_cons.mpr ⟨fun _ => cw_X9_search, List.forall_mem_cons.mpr ⟨fun _ => cw_X10_search, List.forall_mem_cons.mpr ⟨fun _ => cw_X9_hopeless, List.forall_mem_cons.mpr ⟨fun _ => cw_X10_hopeless, List.forall_mem_cons.mpr ⟨fun _ => cw_X9_planned, List.forall_mem_cons.mpr ⟨fun _ => cw_X10_planned, List.forall_mem_cons.mpr ⟨fun _ => cw_X9_plan, List.forall_mem_cons.mpr ⟨fun _ => cw_X10_plan, List.forall_mem_cons.mpr ⟨fun _ => cw_X9_tried, List.forall_mem_cons.mpr ⟨fun _ => cw_X10_tried, List.forall_mem_cons.mpr ⟨fun _ => cw_X9_change, List.forall_mem_cons.mpr ⟨fun _ => cw_X10_change, List.forall_mem_cons.mpr ⟨fun _ => cw_X9_step, List.forall_mem_cons.mpr ⟨fun _ => cw_X10_step, List.forall_mem_cons.mpr ⟨fun _ => cw_X9_go, List.forall_mem_cons.mpr ⟨fun _ => cw_X10_go, List.forall_mem_cons.mpr ⟨fun _ => cw_X9_sheet, List.forall_mem_cons.mpr ⟨fun _ => cw_X10_sheet, List.forall_mem_cons.mpr ⟨fun _ => cw_X9_lose, List.forall_mem_cons.mpr ⟨fun _ => cw_X10_lose, List.forall_mem_cons.mpr ⟨fun _ => cw_X9_put, List.forall_mem_cons.mpr ⟨fun _ => cw_X10_put, List.forall_mem_cons.mpr ⟨fun _ => cw_X9_cell, List.forall_mem_cons.mpr ⟨fun _ => cw_X10_cell, List.forall_mem_cons.mpr ⟨fun _ => cw_X9_copy, List.forall_mem_cons.mpr ⟨fun _ => cw_X10_copy, List.forall_mem_cons.mpr ⟨fun _ => cw_X9_tell, List.forall_mem_cons.mpr ⟨fun _ => cw_X10_tell, List.forall_mem_cons.mpr ⟨fun _ => cw_X9_spread, List.forall_mem_cons.mpr ⟨fun _ => cw_X10_spread, List.forall_mem_cons.mpr ⟨fun _ => cw_X9_as, List.forall_mem_cons.mpr ⟨fun _ => cw_X10_as, List.forall_mem_cons.mpr ⟨fun _ => cw_X9_trace, List.forall_mem_cons.mpr ⟨fun _ => cw_X10_trace, List.forall_mem_cons.mpr ⟨fun _ => cw_X9_fault, List.forall_mem_cons.mpr ⟨fun _ => cw_X10_fault, List.forall_mem_cons.mpr ⟨fun _ => cw_X9_told, List.forall_mem_cons.mpr ⟨fun _ => cw_X10_told, fun _ h => absurd h List.not_mem_nil⟩⟩⟩⟩⟩⟩⟩⟩⟩⟩⟩⟩⟩⟩⟩⟩⟩⟩⟩⟩⟩⟩⟩⟩⟩⟩⟩⟩⟩⟩⟩⟩⟩⟩⟩⟩⟩⟩⟩⟩⟩⟩⟩⟩⟩⟩⟩⟩⟩⟩⟩⟩⟩⟩⟩⟩⟩⟩⟩⟩⟩⟩⟩⟩⟩⟩⟩⟩⟩⟩
theorem tb_cw (o : Nat) : ∀ e ∈ invL o, e.2.1 ≤ 3 → Cond.code e.2.2.2.1 e.2.2.2.2.1 e.2.2.2.2.2.1 e.2.2.2.2.2.2 ∈ tbw := by
  match o with
  | 0 => exact tb_cw0
  | 1 => exact tb_cw1
  | 2 => exact tb_cw2
  | 3 => exact tb_cw3
  | 4 => exact tb_cw4
  | 5 => exact tb_cw5
  | 6 => exact tb_cw6
  | 7 => exact tb_cw7
  | 8 => exact tb_cw8
  | 9 => exact tb_cw9
  | 10 => exact tb_cw10
  | 11 => exact tb_cw11
  | n + 12 => intro e he; simp [invL] at he
set_option maxRecDepth 100000 in
theorem tb_inv0 : ∀ o, o < 9 → zipAll (fun e p => okCb o e.1 e.2 p) (invL o) (invP o) = true := by decide +kernel
set_option maxRecDepth 100000 in
theorem tb_inv9 : zipAll (fun e p => okCb 9 e.1 e.2 p) (invL 9) (invP 9) = true := by decide +kernel
set_option maxRecDepth 100000 in
theorem tb_inv10 : zipAll (fun e p => okCb 10 e.1 e.2 p) (invL 10) (invP 10) = true := by decide +kernel
set_option maxRecDepth 100000 in
theorem tb_inv11 : zipAll (fun e p => okCb 11 e.1 e.2 p) (invL 11) (invP 11) = true := by decide +kernel
theorem tb_inv {o : Nat} (ho : o < 13) : ∀ e ∈ invL o, okC o e.1 e.2 := by
  have key : zipAll (fun e p => okCb o e.1 e.2 p) (invL o) (invP o) = true := by
    rcases Nat.lt_or_ge o 9 with h | h
    · exact tb_inv0 o h
    · have : o = 9 ∨ o = 10 ∨ o = 11 ∨ o = 12 := by omega
      rcases this with rfl | rfl | rfl | rfl
      · exact tb_inv9
      · exact tb_inv10
      · exact tb_inv11
      · rfl
  intro e he
  obtain ⟨p, h⟩ := zipAll_mem key e he
  exact okC_of (tb_cw o e he) h
set_option maxRecDepth 100000 in
theorem tb_jdk : Cond.instanceMethod objectInit ∈ tbw ∧ Cond.code objectInit ⟨#[0xb1]⟩ 1 none ∈ tbw ∧ Cond.native arraycopyName ∈ tbw ∧ Cond.static arraycopyName ∈ tbw ∧ Cond.initialized "java/lang/System" ∈ tbw ∧ Cond.initialized "java/lang/Math" ∈ tbw ∧ Cond.static Lib.Math.max.name ∈ tbw ∧ Cond.code Lib.Math.max.name Lib.Math.max.code 2 (some .int) ∈ tbw ∧ Cond.static Lib.Math.min.name ∈ tbw ∧ Cond.code Lib.Math.min.name Lib.Math.min.code 2 (some .int) ∈ tbw ∧ Cond.static Lib.MathLoose.abs_long.x ∈ tbw ∧ Cond.code Lib.MathLoose.abs_long.x Lib.MathLoose.abs_long.code 2 (some .long) ∈ tbw ∧ Cond.static Lib.MathLoose.min_long.x ∈ tbw ∧ Cond.code Lib.MathLoose.min_long.x Lib.MathLoose.min_long.code 4 (some .long) ∈ tbw :=
  ⟨wAt_tbw (i := 66) rfl (by decide +kernel), wAt_tbw (i := 67) rfl (by decide +kernel), wAt_tbw (i := 589) rfl (by decide +kernel), wAt_tbw (i := 588) rfl (by decide +kernel), wAt_tbw (i := 59) rfl (by decide +kernel), wAt_tbw (i := 58) rfl (by decide +kernel), wAt_tbw (i := 572) rfl (by decide +kernel), wAt_tbw (i := 573) rfl (by decide +kernel), wAt_tbw (i := 556) rfl (by decide +kernel), wAt_tbw (i := 557) rfl (by decide +kernel), wAt_tbw (i := 531) rfl (by decide +kernel), wAt_tbw (i := 532) rfl (by decide +kernel), wAt_tbw (i := 536) rfl (by decide +kernel), wAt_tbw (i := 537) rfl (by decide +kernel)⟩
set_option maxRecDepth 100000 in
theorem tb_acl : Cond.arrayClass .int ∈ tbw ∧ Cond.arrayClass .long ∈ tbw ∧ Cond.arrayClass .boolean ∈ tbw ∧ Cond.arrayOver (.object RX0) ∈ tbw ∧ Cond.arrayOver (.object RX4) ∈ tbw ∧ Cond.arrayOver (.object RX7) ∈ tbw :=
  ⟨wAt_tbw (i := 130) rfl (by decide +kernel), wAt_tbw (i := 168) rfl (by decide +kernel), wAt_tbw (i := 901) rfl (by decide +kernel), wAt_tbw (i := 75) rfl (by decide +kernel), wAt_tbw (i := 332) rfl (by decide +kernel), wAt_tbw (i := 176) rfl (by decide +kernel)⟩
theorem lk_mem {α : Type} {i : Nat} {v : α} : ∀ {l : List (Nat × α)}, l.lookup i = some v → (i, v) ∈ l := by
  intro l
  induction l with
  | nil => intro h; simp at h
  | cons e t ih =>
    obtain ⟨a, x⟩ := e
    intro h
    rw [List.lookup_cons] at h
    by_cases q : i = a
    · subst q
      simp at h
      subst h
      exact List.mem_cons_self
    · rw [show (i == a) = false by simpa using q] at h
      exact List.mem_cons_of_mem _ (ih h)
theorem tw_move {s U : State} {a a' : Array Value} (hW : s.WarmedH U.vm) (h : ∀ w ∈ tbw, w.before a s = true) : ∀ w ∈ tbw, w.before a' U = true := by
  intro w hw
  have h1 := (List.mem_filter.mp hw).2
  have h2 := h w hw
  unfold twc at h1
  rcases Bool.or_eq_true .. |>.mp h1 with q | q
  · exact word_at hW (good_of_word q) h2
  · split at q
    · exact va_Nw.use rfl (va_Nw.warmM hW (va_Nw.of rfl h2))
    · exact va_AO.use (va_AO.moved hW.alike (va_AO.of h2))
    · cases q
