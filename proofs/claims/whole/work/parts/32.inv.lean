/-! the class's places beside the reference's -/
abbrev Tb : Type := Nat → Nat → Nat
/-- the nodes as the class holds them: columns of T: 0 kind, 1 first, 2 second, 3 low, 4 high, 5 given, 6 floor, 7 roof, 8 locked, 9 setting -/
def nodeC (I : Nat → Nat → Int32) (N : Nat) (T : Tb) : Prop := I 1 2 = nI N ∧ (∀ n, n < N → I (4 + n) 0 = nI (T 0 n) ∧ I (4 + n) 1 = (if T 0 n = 0 then -9 else nI (T 1 n)) ∧ I (4 + n) 2 = (if T 0 n = 3 then nI (T 2 n) else -9) ∧ I (4 + n) 3 = nI (T 3 n) ∧ I (4 + n) 4 = nI (T 4 n) ∧ (T 0 n = 0 → I (4 + n) 5 = nI (T 5 n)) ∧ I (4 + n) 6 = nI (T 6 n) ∧ I (4 + n) 7 = nI (T 7 n) ∧ I (4 + n) 8 = nI (T 8 n) ∧ I 3 n = nI (T 9 n)) ∧ ∀ n, N ≤ n → n < 16 → I (4 + n) 6 = nI 0 ∧ I (4 + n) 7 = nI 1000000000 ∧ I (4 + n) 8 = nI 0
/-- .. as the reference holds them -/
def nodeM (I : Nat → Nat → Int32) (L : Nat → Nat → Int64) (N : Nat) (T : Tb) : Prop := I 68 1 = nI N ∧ ∀ n, n < N → I 69 n = nI (T 0 n) ∧ I 70 n = (if T 0 n = 0 then nI (T 5 n) else nI (T 1 n)) ∧ I 71 n = (if T 0 n = 3 then nI (T 2 n) else -9) ∧ I 72 n = nI (T 3 n) ∧ I 73 n = nI (T 4 n) ∧ I 74 n = nI (T 9 n) ∧ I 75 n = nI (T 8 n) ∧ L 76 n = lN (T 6 n) ∧ L 77 n = lN (T 7 n)
/-- what nodes may be -/
def nodeW (N : Nat) (T : Tb) : Prop := N ≤ 16 ∧ ∀ n, n < N → T 0 n ≤ 4 ∧ (T 0 n ≠ 0 → T 1 n < n) ∧ (T 0 n = 3 → T 2 n < n) ∧ (T 0 n = 0 → 1 ≤ T 5 n ∧ T 5 n ≤ 1000000 ∧ T 3 n = 0 ∧ T 4 n = 0) ∧ (T 0 n = 1 ∨ T 0 n = 2 → 1 ≤ T 3 n ∧ T 3 n ≤ T 4 n ∧ T 4 n ≤ 64) ∧ (3 ≤ T 0 n → T 3 n = 0 ∧ T 4 n = 1) ∧ T 6 n ≤ T 7 n ∧ T 7 n ≤ 1000000000 ∧ T 8 n ≤ 1 ∧ T 3 n ≤ T 9 n ∧ T 9 n ≤ T 4 n
/-- wishes: columns 0 kind, 1 mode, 2 node, 3 a, 4 b, 5 e -/
def wishC (I : Nat → Nat → Int32) (W : Nat) (V : Tb) : Prop := I 23 1 = nI W ∧ ∀ w, w < W → ∀ c, c < 6 → I (25 + w) c = nI (V c w)
def wishM (I : Nat → Nat → Int32) (W : Nat) (V : Tb) : Prop := I 68 14 = nI W ∧ ∀ w, w < W → I 81 w = nI (V 0 w) ∧ I 82 w = nI (V 1 w) ∧ I 83 w = nI (V 2 w) ∧ I 84 w = nI (V 3 w) ∧ I 85 w = nI (V 4 w) ∧ I 86 w = nI (V 5 w)
def wishW (N W : Nat) (V : Tb) : Prop := W ≤ 12 ∧ ∀ w, w < W → V 0 w ≤ 1 ∧ V 1 w ≤ 2 ∧ V 2 w < N ∧ (V 0 w = 0 → 1 ≤ V 3 w ∧ V 3 w ≤ 1000000 ∧ 1 ≤ V 4 w ∧ V 4 w ≤ 1000 ∧ V 5 w ≤ 999) ∧ (V 0 w = 1 → V 3 w < N ∧ V 3 w ≠ V 2 w ∧ 1 ≤ V 4 w ∧ V 4 w ≤ 100 ∧ V 5 w = 0)
/-- the plan: none, or P settings -/
def planR (I : Nat → Nat → Int32) (N : Nat) (T : Tb) (P : Option Nat) : Prop := match P with
  | none => I 49 1 = -9 ∧ I 68 22 = -1
  | some P => I 49 1 = nI P ∧ I 68 22 = nI P ∧ P ≤ N ∧ ∀ n, n < P → ∃ p, I 50 n = nI p ∧ I 87 n = nI p ∧ T 3 n ≤ p ∧ p ≤ T 4 n
/-- the steps: none, or C of them -/
def wayR (I : Nat → Nat → Int32) (P C : Option Nat) : Prop := match C with
  | none => I 51 1 = -9 ∧ I 68 32 = -9
  | some C => I 51 1 = nI C ∧ I 68 32 = nI C ∧ C ≤ 12 ∧ ∃ p, P = some p ∧ ∀ i, i < C → ∃ q, q < p ∧ I 52 i = nI q ∧ I 93 i = nI q
/-- the sheets -/
def sheetR (I : Nat → Nat → Int32) : Prop := ∀ k, k < 4 → (I (60 + 2 * k) 1 = -9 ∧ I 89 k = -1) ∨ ∃ l z, l < 3 ∧ z ≤ 24 ∧ I (60 + 2 * k) 1 = nI l ∧ I 90 k = nI l ∧ I (60 + 2 * k) 2 = nI z ∧ I 89 k = nI z ∧ ∀ i, i < z → I (61 + 2 * k) i = I 91 (24 * k + i)
def restR (I : Nat → Nat → Int32) (L : Nat → Nat → Int64) : Prop := I 0 7 = I 68 37 ∧ I 0 8 = I 68 0 ∧ I 37 0 = I 68 21 ∧ I 45 0 = nI 0 ∧ I 46 0 = nI 0 ∧ I 47 0 = nI 0 ∧ L 48 0 = lN 0
def InvA (I : Nat → Nat → Int32) (L : Nat → Nat → Int64) (N : Nat) (T : Tb) (W : Nat) (V : Tb) (P C : Option Nat) : Prop :=
  nodeC I N T ∧ nodeM I L N T ∧ nodeW N T ∧ wishC I W V ∧ wishM I W V ∧ wishW N W V ∧ planR I N T P ∧ wayR I P C ∧ sheetR I ∧ restR I L
def Inv (I : Nat → Nat → Int32) (L : Nat → Nat → Int64) (J : Nat → Int32) (n : Nat) : Prop := (∃ N T W V P C, InvA I L N T W V P C) ∧ I 1000 = J ∧ I 1001 0 = nI n
def InvS (J : Nat → Int32) (n : Nat) (σ : Sg) : Prop := ∃ I L, σ = rn I L ∧ Inv I L J n
/-! what a part of it needs of the rows -/
section
variable {I I' : Nat → Nat → Int32} {L L' : Nat → Nat → Int64} {N W : Nat} {T V : Tb} {P C : Option Nat}
theorem nodeC_cg (h : ∀ q, q = 1 ∨ q = 3 ∨ (4 ≤ q ∧ q < 20) → I' q = I q) (w : nodeW N T) (a : nodeC I N T) : nodeC I' N T := by
  obtain ⟨a1, a2, a3⟩ := a
  refine ⟨by rw [h 1 (by omega)]; exact a1, fun n hn => ?_, fun n h1 h2 => ?_⟩
  · rw [h (4 + n) (by have := w.1; omega), h 3 (by omega)]; exact a2 n hn
  · rw [h (4 + n) (by omega)]; exact a3 n h1 h2
theorem nodeM_cg (h : I' 68 1 = I 68 1) (h1 : ∀ q, 69 ≤ q ∧ q < 76 → I' q = I q) (h2 : L' 76 = L 76) (h3 : L' 77 = L 77) (a : nodeM I L N T) : nodeM I' L' N T := by
  obtain ⟨a1, a2⟩ := a
  refine ⟨by rw [h]; exact a1, fun n hn => ?_⟩
  rw [h1 69 (by omega), h1 70 (by omega), h1 71 (by omega), h1 72 (by omega), h1 73 (by omega), h1 74 (by omega), h1 75 (by omega), h2, h3]
  exact a2 n hn
theorem wishC_cg (h : ∀ q, q = 23 ∨ (25 ≤ q ∧ q < 37) → I' q = I q) (w : W ≤ 12) (a : wishC I W V) : wishC I' W V := by
  refine ⟨by rw [h 23 (by omega)]; exact a.1, fun n hn => ?_⟩
  rw [h (25 + n) (by omega)]; exact a.2 n hn
theorem wishM_cg (h : I' 68 14 = I 68 14) (h1 : ∀ q, 81 ≤ q ∧ q < 87 → I' q = I q) (a : wishM I W V) : wishM I' W V := by
  refine ⟨by rw [h]; exact a.1, fun n hn => ?_⟩
  rw [h1 81 (by omega), h1 82 (by omega), h1 83 (by omega), h1 84 (by omega), h1 85 (by omega), h1 86 (by omega)]
  exact a.2 n hn
theorem planR_cg (h : I' 49 1 = I 49 1) (h1 : I' 68 22 = I 68 22) (h2 : I' 50 = I 50) (h3 : I' 87 = I 87) (a : planR I N T P) : planR I' N T P := by
  unfold planR at a ⊢
  rw [h, h1, h2, h3]
  exact a
theorem wayR_cg (h : I' 51 1 = I 51 1) (h1 : I' 68 32 = I 68 32) (h2 : I' 52 = I 52) (h3 : I' 93 = I 93) (a : wayR I P C) : wayR I' P C := by
  unfold wayR at a ⊢
  rw [h, h1, h2, h3]
  exact a
theorem sheetR_cg (h : ∀ q, (60 ≤ q ∧ q < 68) ∨ (89 ≤ q ∧ q < 92) → I' q = I q) (a : sheetR I) : sheetR I' := by
  intro k hk
  rw [h (60 + 2 * k) (by omega), h (61 + 2 * k) (by omega), h 89 (by omega), h 90 (by omega), h 91 (by omega)]
  exact a k hk
theorem restR_cg (h : I' 0 7 = I 0 7) (h1 : I' 0 8 = I 0 8) (h2 : I' 68 37 = I 68 37) (h3 : I' 68 0 = I 68 0) (h4 : I' 37 0 = I 37 0) (h5 : I' 68 21 = I 68 21) (h6 : I' 45 = I 45) (h7 : I' 46 = I 46) (h8 : I' 47 = I 47) (h9 : L' 48 0 = L 48 0) (a : restR I L) : restR I' L' := by
  unfold restR at a ⊢
  rw [h, h1, h2, h3, h4, h5, h6, h7, h8, h9]
  exact a
end
