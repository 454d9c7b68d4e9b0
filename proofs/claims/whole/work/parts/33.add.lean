/-! a node more -/
def tAdd (T : Tb) (N : Nat) (v : Nat → Nat) : Tb := fun c n => if n = N then v c else T c n
theorem tAdd_eq {T : Tb} {N c : Nat} {v : Nat → Nat} : tAdd T N v c N = v c := by simp [tAdd]
theorem tAdd_ne {T : Tb} {N c n : Nat} {v : Nat → Nat} (h : n ≠ N) : tAdd T N v c n = T c n := by simp [tAdd, h]
/-- the rows behind a node more -/
def addR (I I' : Nat → Nat → Int32) (L L' : Nat → Nat → Int64) (N : Nat) (v : Nat → Nat) : Prop :=
  (I' 1 2 = nI (N + 1) ∧ I' 68 1 = nI (N + 1) ∧ I' 51 1 = -9 ∧ I' 68 32 = -9 ∧ L' 48 0 = L 48 0) ∧
  (∀ q, (q = 0 ∨ q = 23 ∨ (25 ≤ q ∧ q < 38) ∨ (45 ≤ q ∧ q < 48) ∨ q = 49 ∨ q = 50 ∨ (60 ≤ q ∧ q < 68) ∨ (81 ≤ q ∧ q < 96) ∨ 1000 ≤ q) → I' q = I q) ∧
  (∀ n, n < 16 → n ≠ N → I' (4 + n) = I (4 + n) ∧ I' 3 n = I 3 n ∧ I' 69 n = I 69 n ∧ I' 70 n = I 70 n ∧ I' 71 n = I 71 n ∧ I' 72 n = I 72 n ∧ I' 73 n = I 73 n ∧ I' 74 n = I 74 n ∧ I' 75 n = I 75 n ∧ L' 76 n = L 76 n ∧ L' 77 n = L 77 n) ∧
  (∀ j, j ≠ 1 → j ≠ 32 → I' 68 j = I 68 j) ∧
  (I' (4 + N) 0 = nI (v 0) ∧ I' (4 + N) 1 = (if v 0 = 0 then -9 else nI (v 1)) ∧ I' (4 + N) 2 = (if v 0 = 3 then nI (v 2) else -9) ∧ I' (4 + N) 3 = nI (v 3) ∧ I' (4 + N) 4 = nI (v 4) ∧ (v 0 = 0 → I' (4 + N) 5 = nI (v 5)) ∧ I' (4 + N) 6 = I (4 + N) 6 ∧ I' (4 + N) 7 = I (4 + N) 7 ∧ I' (4 + N) 8 = I (4 + N) 8 ∧ I' 3 N = nI (v 9)) ∧
  (I' 69 N = nI (v 0) ∧ I' 70 N = (if v 0 = 0 then nI (v 5) else nI (v 1)) ∧ I' 71 N = (if v 0 = 3 then nI (v 2) else -9) ∧ I' 72 N = nI (v 3) ∧ I' 73 N = nI (v 4) ∧ I' 74 N = nI (v 9) ∧ I' 75 N = nI 0 ∧ L' 76 N = lN 0 ∧ L' 77 N = lN 1000000000)
theorem inv_add {I I' : Nat → Nat → Int32} {L L' : Nat → Nat → Int64} {J : Nat → Int32} {z N W : Nat} {T V : Tb} {P C : Option Nat} (A : InvA I L N T W V P C) (hJ : I 1000 = J) (hz : I 1001 0 = nI z) (hN : N < 16) (v : Nat → Nat) (h : addR I I' L L' N v)
    (hv : v 0 ≤ 4 ∧ (v 0 ≠ 0 → v 1 < N) ∧ (v 0 = 3 → v 2 < N) ∧ (v 0 = 0 → 1 ≤ v 5 ∧ v 5 ≤ 1000000 ∧ v 3 = 0 ∧ v 4 = 0) ∧ (v 0 = 1 ∨ v 0 = 2 → 1 ≤ v 3 ∧ v 3 ≤ v 4 ∧ v 4 ≤ 64) ∧ (3 ≤ v 0 → v 3 = 0 ∧ v 4 = 1) ∧ v 6 = 0 ∧ v 7 = 1000000000 ∧ v 8 = 0 ∧ v 9 = v 3 ∧ v 3 ≤ v 4) : InvS J z (rn I' L') := by
  obtain ⟨A1, A2, A3, A4, A5, A6, A7, A8, A9, A10⟩ := A
  obtain ⟨⟨g1, g2, g3, g4, g10⟩, g5, g6, g7, g8, g9⟩ := h
  obtain ⟨v0, v1, v2, v3, v4, v5, v6, v7, v8, v9, v10⟩ := hv
  refine ⟨I', L', rfl, ⟨N + 1, tAdd T N v, W, V, P, none, ?_, ?_, ?_, ?_, ?_, ?_, ?_, ?_, ?_, ?_⟩, by rw [g5 1000 (by omega)]; exact hJ, by rw [g5 1001 (by omega)]; exact hz⟩
  · refine ⟨g1, fun n hn => ?_, fun n h1 h2 => ?_⟩
    · by_cases e : n = N
      · subst e
        obtain ⟨f6, f7, f8⟩ := A1.2.2 n (by omega) hN
        obtain ⟨b0, b1, b2, b3, b4, b5, b6, b7, b8, b9⟩ := g8
        simp only [tAdd_eq]
        exact ⟨b0, b1, b2, b3, b4, b5, by rw [b6, f6, v6], by rw [b7, f7, v7], by rw [b8, f8, v8], b9⟩
      · have := g6 n (by omega) e
        simp only [tAdd_ne e]
        rw [this.1, this.2.1]
        exact A1.2.1 n (by omega)
    · rw [(g6 n h2 (by omega)).1]
      exact A1.2.2 n (by omega) h2
  · refine ⟨g2, fun n hn => ?_⟩
    by_cases e : n = N
    · subst e
      obtain ⟨b0, b1, b2, b3, b4, b5, b6, b7, b8⟩ := g9
      simp only [tAdd_eq]
      exact ⟨b0, b1, b2, b3, b4, b5, by rw [b6, v8], by rw [b7, v6], by rw [b8, v7]⟩
    · obtain ⟨-, -, b0, b1, b2, b3, b4, b5, b6, b7, b8⟩ := g6 n (by omega) e
      simp only [tAdd_ne e]
      rw [b0, b1, b2, b3, b4, b5, b6, b7, b8]
      exact A2.2 n (by omega)
  · refine ⟨by omega, fun n hn => ?_⟩
    by_cases e : n = N
    · subst e
      simp only [tAdd_eq]
      exact ⟨v0, v1, v2, v3, v4, v5, by omega, by omega, by omega, by omega, by omega⟩
    · simp only [tAdd_ne e]
      exact A3.2 n (by omega)
  · exact wishC_cg (fun q hq => g5 q (by omega)) A6.1 A4
  · exact wishM_cg (g7 14 (by omega) (by omega)) (fun q hq => g5 q (by omega)) A5
  · refine ⟨A6.1, fun w hw => ?_⟩
    obtain ⟨w0, w1, w2, w3, w4⟩ := A6.2 w hw
    exact ⟨w0, w1, by omega, w3, fun q => by have := w4 q; omega⟩
  · have a7 := planR_cg (by rw [g5 49 (by omega)]) (g7 22 (by omega) (by omega)) (g5 50 (by omega)) (g5 87 (by omega)) A7
    cases P with
    | none => exact a7
    | some p =>
      obtain ⟨p1, p2, p3, p4⟩ := a7
      refine ⟨p1, p2, by omega, fun n hn => ?_⟩
      obtain ⟨x, x1, x2, x3, x4⟩ := p4 n hn
      exact ⟨x, x1, x2, by rw [tAdd_ne (by omega)]; exact x3, by rw [tAdd_ne (by omega)]; exact x4⟩
  · exact ⟨g3, g4⟩
  · exact sheetR_cg (fun q hq => g5 q (by omega)) A9
  · exact restR_cg (by rw [g5 0 (by omega)]) (by rw [g5 0 (by omega)]) (g7 37 (by omega) (by omega)) (g7 0 (by omega) (by omega)) (by rw [g5 37 (by omega)]) (g7 21 (by omega) (by omega)) (g5 45 (by omega)) (g5 46 (by omega)) (g5 47 (by omega)) g10 A10
theorem inv_keep {I : Nat → Nat → Int32} {L : Nat → Nat → Int64} {J : Nat → Int32} {z N W : Nat} {T V : Tb} {P C : Option Nat} (A : InvA I L N T W V P C) (hJ : I 1000 = J) (hz : I 1001 0 = nI z) : InvS J z (rn I L) := ⟨I, L, rfl, ⟨N, T, W, V, P, C, A⟩, hJ, hz⟩
/-- an int between two numbers is one -/
theorem nI_btw {x : Int32} {a b : Nat} (ha : a < 2147483648) (hb : b < 2147483648) (h1 : ¬ x < nI a) (h2 : ¬ nI b < x) : ∃ r : Nat, x = nI r ∧ a ≤ r ∧ r ≤ b := by
  have e1 := nI_toInt ha
  have e2 := nI_toInt hb
  rw [Int32.lt_iff_toInt_lt, e1] at h1
  rw [Int32.lt_iff_toInt_lt, e2] at h2
  refine ⟨x.toInt.toNat, Int32.toInt_inj.mp ?_, by omega, by omega⟩
  rw [nI_toInt (by omega)]
  omega
