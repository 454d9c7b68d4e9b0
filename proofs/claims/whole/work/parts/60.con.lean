/-! the constructors, run by the kernel: a trial -/
def sgZ : Sg := (1, fun _ _ => false, fun _ _ => 0, fun _ _ => 0)
set_option maxRecDepth 100000 in
theorem con_try : (match ev 3000 90 mX9_init 0 [.ref 0, .null] [] sgZ with
  | some (_, σ) => decide (σ.1 = 68)
  | none => false) = true := by decide +kernel
