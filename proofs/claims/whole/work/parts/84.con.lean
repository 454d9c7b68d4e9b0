/-! the constructors, run by the kernel -/
def sgZ : Sg := (0, fun _ _ => false, fun _ _ => 0, fun _ _ => 0)
def relB (k j : Nat) : Bool := match shO k with
  | some c => decide (j < nfT c) && (skF (tyT c j) == 3)
  | none => match shA k with
    | some a => decide (3 ≤ a.1) && decide (j < a.2)
    | none => false
def fctI (I : Nat → Nat → Int32) (L : Nat → Nat → Int64) : Bool :=
  (List.range 16).all (fun n => decide (I (4 + n) 6 = nI 0 ∧ I (4 + n) 7 = nI 1000000000 ∧ I (4 + n) 8 = nI 0)) &&
  (List.range 4).all (fun k => decide (I (60 + 2 * k) 1 = -9 ∧ I 89 k = -1)) &&
  decide (I 1 2 = nI 0 ∧ I 68 1 = nI 0 ∧ I 23 1 = nI 0 ∧ I 68 14 = nI 0) &&
  decide (I 49 1 = -9 ∧ I 68 22 = -1 ∧ I 51 1 = -9 ∧ I 68 32 = -9) &&
  decide (I 0 7 = I 68 37 ∧ I 0 8 = I 68 0 ∧ I 37 0 = I 68 21) &&
  decide (I 45 0 = nI 0 ∧ I 46 0 = nI 0 ∧ I 47 0 = nI 0 ∧ L 48 0 = lN 0)
def fctB (τ : Sg) : Bool := decide (τ.1 = 96) && (List.range 96).all (fun k => (List.range 40).all (fun j => !relB k j || τ.2.1 k j)) && fctI τ.2.2.1 τ.2.2.2
set_option maxRecDepth 100000 in
theorem con_chk : (match evg 4000 99 mX9_init 0 [.ref 0, .null] [] (born sgZ) with
  | some p => decide (p.2.1 = 68) && (match evg 4000 99 mX10_init 0 [.ref 68, .null] [] (born p.2) with
    | some q => fctB q.2
    | none => false)
  | none => false) = true := by decide +kernel
