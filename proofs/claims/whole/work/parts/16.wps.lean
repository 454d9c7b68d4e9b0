/-! the small machine's steps as equations -/
def rn (I : Nat → Nat → Int32) (L : Nat → Nat → Int64) : Sg := (96, fun _ _ => true, I, L)
def tyA (k : Nat) : Nat := match shA k with
  | some a => a.1
  | none => 999
def lenA (k : Nat) : Nat := match shA k with
  | some a => a.2
  | none => 0
theorem shA_of {k t : Nat} (h : tyA k = t) (ht : t < 999) : shA k = some (t, lenA k) := by
  unfold tyA at h
  unfold lenA
  split at h
  · next a e => rw [e]; subst h; rfl
  · omega
theorem dcq {M : MI} {cc : ByteArray} {pc : Nat} {r : Except DecodeError (Instr × Nat)} (hc : M.2.2.1 = cc) (hd : decode cc pc = r) : decode M.2.2.1 pc = r := by rw [hc]; exact hd
theorem lst1_at (ls : List Value) (j : Nat) (v w : Value) (h1 : ls[j]? = some w) (h : w.category = 1) : lst1 ls (j + 1) v = ls.set (j + 1) v := by
  simp only [lst1, lpre, h1, h]
  rfl
theorem lst2_at (ls : List Value) (j : Nat) (v w : Value) (h1 : ls[j]? = some w) (h : w.category = 1) : lst2 ls (j + 1) v = (ls.set (j + 1) v).set (j + 1 + 1) .null := by
  simp only [lst2, lpre, h1, h]
  rfl
theorem fk0 : (0 : Fin 4).val = 0 := rfl
theorem fk1 : (1 : Fin 4).val = 1 := rfl
theorem fk2 : (2 : Fin 4).val = 2 := rfl
theorem fk3 : (3 : Fin 4).val = 3 := rfl
section Wps
variable {d : Nat} {M : MI} {cc : ByteArray} {pc : Nat} {ls st : List Value} {σ : Sg} {Q : Value → Sg → Prop} {I : Nat → Nat → Int32} {L : Nat → Nat → Int64}
theorem wp_iconst {n : Int} {v : Int32} (hc : M.2.2.1 = cc) (hd : decode cc pc = .ok (.iconst n, 1)) (hv : Int32.ofInt n = v) : wp d M pc ls st σ Q = wp d M (pc + 1) ls (.int v :: st) σ Q := by subst hv; exact wp_stp (dcq hc hd) rfl rfl rfl
theorem wp_bipush {n : Int} {v : Int32} (hc : M.2.2.1 = cc) (hd : decode cc pc = .ok (.bipush n, 2)) (hv : (Int8.ofInt n).toInt32 = v) : wp d M pc ls st σ Q = wp d M (pc + 2) ls (.int v :: st) σ Q := by subst hv; exact wp_stp (dcq hc hd) rfl rfl rfl
theorem wp_sipush {n : Int} {v : Int32} (hc : M.2.2.1 = cc) (hd : decode cc pc = .ok (.sipush n, 3)) (hv : (Int16.ofInt n).toInt32 = v) : wp d M pc ls st σ Q = wp d M (pc + 3) ls (.int v :: st) σ Q := by subst hv; exact wp_stp (dcq hc hd) rfl rfl rfl
theorem wp_lconst {n : Fin 2} {v : Int64} (hc : M.2.2.1 = cc) (hd : decode cc pc = .ok (.lconst n, 1)) (hv : Int64.ofNat n.val = v) : wp d M pc ls st σ Q = wp d M (pc + 1) ls (.long v :: st) σ Q := by subst hv; exact wp_stp (dcq hc hd) rfl rfl rfl
theorem wp_ldc {i : Nat} {v : Int32} (hc : M.2.2.1 = cc) (hd : decode cc pc = .ok (.ldc i, 2)) (hv : cstT M.1 i = some v) : wp d M pc ls st σ Q = wp d M (pc + 2) ls (.int v :: st) σ Q := wp_stp (dcq hc hd) rfl rfl (by simp only [stp, hv])
theorem wp_ldc2 {i : Nat} {v : Int64} (hc : M.2.2.1 = cc) (hd : decode cc pc = .ok (.ldc2_w i, 3)) (hv : cslT M.1 i = some v) : wp d M pc ls st σ Q = wp d M (pc + 3) ls (.long v :: st) σ Q := wp_stp (dcq hc hd) rfl rfl (by simp only [stp, hv])
theorem wp_iload_n {k : Fin 4} {x : Int32} {i : Nat} (hc : M.2.2.1 = cc) (hd : decode cc pc = .ok (.iload_n k, 1)) (hk : k.val = i) (hl : ls[i]? = some (.int x)) : wp d M pc ls st σ Q = wp d M (pc + 1) ls (.int x :: st) σ Q := wp_stp (dcq hc hd) rfl rfl (by simp only [stp, ldI, hk, hl])
theorem wp_lload_n {k : Fin 4} {x : Int64} {i : Nat} (hc : M.2.2.1 = cc) (hd : decode cc pc = .ok (.lload_n k, 1)) (hk : k.val = i) (hl : ls[i]? = some (.long x)) : wp d M pc ls st σ Q = wp d M (pc + 1) ls (.long x :: st) σ Q := wp_stp (dcq hc hd) rfl rfl (by simp only [stp, ldL, hk, hl])
theorem wp_aload_n {k : Fin 4} {x : Nat} {i : Nat} (hc : M.2.2.1 = cc) (hd : decode cc pc = .ok (.aload_n k, 1)) (hk : k.val = i) (hl : ls[i]? = some (.ref x)) : wp d M pc ls st σ Q = wp d M (pc + 1) ls (.ref x :: st) σ Q := wp_stp (dcq hc hd) rfl rfl (by simp only [stp, ldA, hk, hl])
theorem wp_iload {k : Nat} {x : Int32} (hc : M.2.2.1 = cc) (hd : decode cc pc = .ok (.iload k, 2)) (hl : ls[k]? = some (.int x)) : wp d M pc ls st σ Q = wp d M (pc + 2) ls (.int x :: st) σ Q := wp_stp (dcq hc hd) rfl rfl (by simp only [stp, ldI, hl])
theorem wp_lload {k : Nat} {x : Int64} (hc : M.2.2.1 = cc) (hd : decode cc pc = .ok (.lload k, 2)) (hl : ls[k]? = some (.long x)) : wp d M pc ls st σ Q = wp d M (pc + 2) ls (.long x :: st) σ Q := wp_stp (dcq hc hd) rfl rfl (by simp only [stp, ldL, hl])
theorem wp_aload {k : Nat} {x : Nat} (hc : M.2.2.1 = cc) (hd : decode cc pc = .ok (.aload k, 2)) (hl : ls[k]? = some (.ref x)) : wp d M pc ls st σ Q = wp d M (pc + 2) ls (.ref x :: st) σ Q := wp_stp (dcq hc hd) rfl rfl (by simp only [stp, ldA, hl])
theorem wp_istore_n {k : Fin 4} {i : Nat} {x : Int32} {ls' : List Value} (hc : M.2.2.1 = cc) (hd : decode cc pc = .ok (.istore_n k, 1)) (hk : k.val = i) (hi : i < ls.length) (h : lst1 ls i (.int x) = ls') : wp d M pc ls (.int x :: st) σ Q = wp d M (pc + 1) ls' st σ Q := wp_stp (dcq hc hd) rfl rfl (by simp only [stp, stI, hk, hi, if_true, h])
theorem wp_astore_n {k : Fin 4} {i : Nat} {x : Nat} {ls' : List Value} (hc : M.2.2.1 = cc) (hd : decode cc pc = .ok (.astore_n k, 1)) (hk : k.val = i) (hi : i < ls.length) (h : lst1 ls i (.ref x) = ls') : wp d M pc ls (.ref x :: st) σ Q = wp d M (pc + 1) ls' st σ Q := wp_stp (dcq hc hd) rfl rfl (by simp only [stp, stA, hk, hi, if_true, h])
theorem wp_lstore_n {k : Fin 4} {i : Nat} {x : Int64} {ls' : List Value} (hc : M.2.2.1 = cc) (hd : decode cc pc = .ok (.lstore_n k, 1)) (hk : k.val = i) (hi : i + 1 < ls.length) (h : lst2 ls i (.long x) = ls') : wp d M pc ls (.long x :: st) σ Q = wp d M (pc + 1) ls' st σ Q := wp_stp (dcq hc hd) rfl rfl (by simp only [stp, stL, hk, hi, if_true, h])
theorem wp_istore {k : Nat} {x : Int32} {ls' : List Value} (hc : M.2.2.1 = cc) (hd : decode cc pc = .ok (.istore k, 2)) (hi : k < ls.length) (h : lst1 ls k (.int x) = ls') : wp d M pc ls (.int x :: st) σ Q = wp d M (pc + 2) ls' st σ Q := wp_stp (dcq hc hd) rfl rfl (by simp only [stp, stI, hi, if_true, h])
theorem wp_astore {k : Nat} {x : Nat} {ls' : List Value} (hc : M.2.2.1 = cc) (hd : decode cc pc = .ok (.astore k, 2)) (hi : k < ls.length) (h : lst1 ls k (.ref x) = ls') : wp d M pc ls (.ref x :: st) σ Q = wp d M (pc + 2) ls' st σ Q := wp_stp (dcq hc hd) rfl rfl (by simp only [stp, stA, hi, if_true, h])
theorem wp_lstore {k : Nat} {x : Int64} {ls' : List Value} (hc : M.2.2.1 = cc) (hd : decode cc pc = .ok (.lstore k, 2)) (hi : k + 1 < ls.length) (h : lst2 ls k (.long x) = ls') : wp d M pc ls (.long x :: st) σ Q = wp d M (pc + 2) ls' st σ Q := wp_stp (dcq hc hd) rfl rfl (by simp only [stp, stL, hi, if_true, h])
theorem wp_iinc {k : Nat} {n : Int} {x v : Int32} {ls' : List Value} (hc : M.2.2.1 = cc) (hd : decode cc pc = .ok (.iinc k n, 3)) (hl : ls[k]? = some (.int x)) (hv : Int32.ofInt n = v) (h : lst1 ls k (.int (x + v)) = ls') : wp d M pc ls st σ Q = wp d M (pc + 3) ls' st σ Q := by subst hv; exact wp_stp (dcq hc hd) rfl rfl (by simp only [stp, hl, h])
theorem wp_iadd {x y : Int32} (hc : M.2.2.1 = cc) (hd : decode cc pc = .ok (.iadd, 1)) : wp d M pc ls (.int y :: .int x :: st) σ Q = wp d M (pc + 1) ls (.int (x + y) :: st) σ Q := wp_stp (dcq hc hd) rfl rfl rfl
theorem wp_isub {x y : Int32} (hc : M.2.2.1 = cc) (hd : decode cc pc = .ok (.isub, 1)) : wp d M pc ls (.int y :: .int x :: st) σ Q = wp d M (pc + 1) ls (.int (x - y) :: st) σ Q := wp_stp (dcq hc hd) rfl rfl rfl
theorem wp_imul {x y : Int32} (hc : M.2.2.1 = cc) (hd : decode cc pc = .ok (.imul, 1)) : wp d M pc ls (.int y :: .int x :: st) σ Q = wp d M (pc + 1) ls (.int (x * y) :: st) σ Q := wp_stp (dcq hc hd) rfl rfl rfl
theorem wp_iand {x y : Int32} (hc : M.2.2.1 = cc) (hd : decode cc pc = .ok (.iand, 1)) : wp d M pc ls (.int y :: .int x :: st) σ Q = wp d M (pc + 1) ls (.int (x &&& y) :: st) σ Q := wp_stp (dcq hc hd) rfl rfl rfl
theorem wp_ior {x y : Int32} (hc : M.2.2.1 = cc) (hd : decode cc pc = .ok (.ior, 1)) : wp d M pc ls (.int y :: .int x :: st) σ Q = wp d M (pc + 1) ls (.int (x ||| y) :: st) σ Q := wp_stp (dcq hc hd) rfl rfl rfl
theorem wp_ixor {x y : Int32} (hc : M.2.2.1 = cc) (hd : decode cc pc = .ok (.ixor, 1)) : wp d M pc ls (.int y :: .int x :: st) σ Q = wp d M (pc + 1) ls (.int (x ^^^ y) :: st) σ Q := wp_stp (dcq hc hd) rfl rfl rfl
theorem wp_ishl {x y : Int32} (hc : M.2.2.1 = cc) (hd : decode cc pc = .ok (.ishl, 1)) : wp d M pc ls (.int y :: .int x :: st) σ Q = wp d M (pc + 1) ls (.int (x <<< (y &&& 31)) :: st) σ Q := wp_stp (dcq hc hd) rfl rfl rfl
theorem wp_ishr {x y : Int32} (hc : M.2.2.1 = cc) (hd : decode cc pc = .ok (.ishr, 1)) : wp d M pc ls (.int y :: .int x :: st) σ Q = wp d M (pc + 1) ls (.int (x >>> (y &&& 31)) :: st) σ Q := wp_stp (dcq hc hd) rfl rfl rfl
theorem wp_ineg {x : Int32} (hc : M.2.2.1 = cc) (hd : decode cc pc = .ok (.ineg, 1)) : wp d M pc ls (.int x :: st) σ Q = wp d M (pc + 1) ls (.int (-x) :: st) σ Q := wp_stp (dcq hc hd) rfl rfl rfl
theorem wp_i2b {x : Int32} (hc : M.2.2.1 = cc) (hd : decode cc pc = .ok (.i2b, 1)) : wp d M pc ls (.int x :: st) σ Q = wp d M (pc + 1) ls (.int x.toInt8.toInt32 :: st) σ Q := wp_stp (dcq hc hd) rfl rfl rfl
theorem wp_i2s {x : Int32} (hc : M.2.2.1 = cc) (hd : decode cc pc = .ok (.i2s, 1)) : wp d M pc ls (.int x :: st) σ Q = wp d M (pc + 1) ls (.int x.toInt16.toInt32 :: st) σ Q := wp_stp (dcq hc hd) rfl rfl rfl
theorem wp_i2l {x : Int32} (hc : M.2.2.1 = cc) (hd : decode cc pc = .ok (.i2l, 1)) : wp d M pc ls (.int x :: st) σ Q = wp d M (pc + 1) ls (.long x.toInt64 :: st) σ Q := wp_stp (dcq hc hd) rfl rfl rfl
theorem wp_l2i {x : Int64} (hc : M.2.2.1 = cc) (hd : decode cc pc = .ok (.l2i, 1)) : wp d M pc ls (.long x :: st) σ Q = wp d M (pc + 1) ls (.int x.toInt32 :: st) σ Q := wp_stp (dcq hc hd) rfl rfl rfl
theorem wp_lneg {x : Int64} (hc : M.2.2.1 = cc) (hd : decode cc pc = .ok (.lneg, 1)) : wp d M pc ls (.long x :: st) σ Q = wp d M (pc + 1) ls (.long (-x) :: st) σ Q := wp_stp (dcq hc hd) rfl rfl rfl
theorem wp_lcmp {x y : Int64} (hc : M.2.2.1 = cc) (hd : decode cc pc = .ok (.lcmp, 1)) : wp d M pc ls (.long y :: .long x :: st) σ Q = wp d M (pc + 1) ls (.int (lg_cmp x y) :: st) σ Q := wp_stp (dcq hc hd) rfl rfl rfl
theorem wp_ladd {x y : Int64} (hc : M.2.2.1 = cc) (hd : decode cc pc = .ok (.ladd, 1)) : wp d M pc ls (.long y :: .long x :: st) σ Q = wp d M (pc + 1) ls (.long (x + y) :: st) σ Q := wp_stp (dcq hc hd) rfl rfl rfl
theorem wp_lsub {x y : Int64} (hc : M.2.2.1 = cc) (hd : decode cc pc = .ok (.lsub, 1)) : wp d M pc ls (.long y :: .long x :: st) σ Q = wp d M (pc + 1) ls (.long (x - y) :: st) σ Q := wp_stp (dcq hc hd) rfl rfl rfl
theorem wp_lmul {x y : Int64} (hc : M.2.2.1 = cc) (hd : decode cc pc = .ok (.lmul, 1)) : wp d M pc ls (.long y :: .long x :: st) σ Q = wp d M (pc + 1) ls (.long (x * y) :: st) σ Q := wp_stp (dcq hc hd) rfl rfl rfl
theorem wp_land {x y : Int64} (hc : M.2.2.1 = cc) (hd : decode cc pc = .ok (.land, 1)) : wp d M pc ls (.long y :: .long x :: st) σ Q = wp d M (pc + 1) ls (.long (x &&& y) :: st) σ Q := wp_stp (dcq hc hd) rfl rfl rfl
theorem wp_lor {x y : Int64} (hc : M.2.2.1 = cc) (hd : decode cc pc = .ok (.lor, 1)) : wp d M pc ls (.long y :: .long x :: st) σ Q = wp d M (pc + 1) ls (.long (x ||| y) :: st) σ Q := wp_stp (dcq hc hd) rfl rfl rfl
theorem wp_ldiv {x y : Int64} (hc : M.2.2.1 = cc) (hd : decode cc pc = .ok (.ldiv, 1)) (hy : ¬ y = 0) : wp d M pc ls (.long y :: .long x :: st) σ Q = wp d M (pc + 1) ls (.long (x / y) :: st) σ Q := wp_stp (dcq hc hd) rfl rfl (by simp only [stp, bD, hy, if_false])
theorem wp_lrem {x y : Int64} (hc : M.2.2.1 = cc) (hd : decode cc pc = .ok (.lrem, 1)) (hy : ¬ y = 0) : wp d M pc ls (.long y :: .long x :: st) σ Q = wp d M (pc + 1) ls (.long (x - x / y * y) :: st) σ Q := wp_stp (dcq hc hd) rfl rfl (by simp only [stp, bD, hy, if_false])
theorem wp_lshl {x : Int64} {y : Int32} (hc : M.2.2.1 = cc) (hd : decode cc pc = .ok (.lshl, 1)) : wp d M pc ls (.int y :: .long x :: st) σ Q = wp d M (pc + 1) ls (.long (x <<< (y.toInt64 &&& 63)) :: st) σ Q := wp_stp (dcq hc hd) rfl rfl rfl
theorem wp_lshr {x : Int64} {y : Int32} (hc : M.2.2.1 = cc) (hd : decode cc pc = .ok (.lshr, 1)) : wp d M pc ls (.int y :: .long x :: st) σ Q = wp d M (pc + 1) ls (.long (x >>> (y.toInt64 &&& 63)) :: st) σ Q := wp_stp (dcq hc hd) rfl rfl rfl
theorem wp_dupI {x : Int32} (hc : M.2.2.1 = cc) (hd : decode cc pc = .ok (.dup, 1)) : wp d M pc ls (.int x :: st) σ Q = wp d M (pc + 1) ls (.int x :: .int x :: st) σ Q := wp_stp (dcq hc hd) rfl rfl rfl
theorem wp_dupA {x : Nat} (hc : M.2.2.1 = cc) (hd : decode cc pc = .ok (.dup, 1)) : wp d M pc ls (.ref x :: st) σ Q = wp d M (pc + 1) ls (.ref x :: .ref x :: st) σ Q := wp_stp (dcq hc hd) rfl rfl rfl
theorem wp_dup_x1 {x : Int32} {k : Nat} (hc : M.2.2.1 = cc) (hd : decode cc pc = .ok (.dup_x1, 1)) : wp d M pc ls (.int x :: .ref k :: st) σ Q = wp d M (pc + 1) ls (.int x :: .ref k :: .int x :: st) σ Q := wp_stp (dcq hc hd) rfl rfl rfl
theorem wp_dup2 {x : Int32} {k : Nat} (hc : M.2.2.1 = cc) (hd : decode cc pc = .ok (.dup2, 1)) : wp d M pc ls (.int x :: .ref k :: st) σ Q = wp d M (pc + 1) ls (.int x :: .ref k :: .int x :: .ref k :: st) σ Q := wp_stp (dcq hc hd) rfl rfl rfl
theorem wp_goto {off : Int} {t : Nat} (hc : M.2.2.1 = cc) (hd : decode cc pc = .ok (.goto off, 3)) (hj : jmp pc off = some t) : wp d M pc ls st σ Q = wp d M t ls st σ Q := wp_stp (dcq hc hd) rfl rfl (by simp only [stp, hj])
theorem wp_ifc {cd : ClassFile.Cond} {off : Int} {t : Nat} {x : Int32} (hc : M.2.2.1 = cc) (hd : decode cc pc = .ok (.ifCond cd off, 3)) (hj : jmp pc off = some t) : wp d M pc ls (.int x :: st) σ Q = wp d M (if cnd cd x 0 then t else pc + 3) ls st σ Q := wp_stp (dcq hc hd) rfl rfl (by simp only [stp, hj])
theorem wp_icm {cd : ClassFile.Cond} {off : Int} {t : Nat} {x y : Int32} (hc : M.2.2.1 = cc) (hd : decode cc pc = .ok (.if_icmp cd off, 3)) (hj : jmp pc off = some t) : wp d M pc ls (.int y :: .int x :: st) σ Q = wp d M (if cnd cd x y then t else pc + 3) ls st σ Q := wp_stp (dcq hc hd) rfl rfl (by simp only [stp, hj])
theorem wp_br {c : Bool} {P : Prop} [Decidable P] {t f : Nat} (h : c = decide P) : wp d M (if c then t else f) ls st σ Q = if P then wp d M t ls st σ Q else wp d M f ls st σ Q := by
  subst h
  by_cases q : P
  · simp [q]
  · simp [q]
theorem wp_if_eq {off : Int} {t : Nat} {x : Int32} (hc : M.2.2.1 = cc) (hd : decode cc pc = .ok (.ifCond .eq off, 3)) (hj : jmp pc off = some t) : wp d M pc ls (.int x :: st) σ Q = if x = 0 then wp d M t ls st σ Q else wp d M (pc + 3) ls st σ Q := by
  rw [wp_ifc hc hd hj]
  exact wp_br (P := x = 0) rfl
theorem wp_if_ne {off : Int} {t : Nat} {x : Int32} (hc : M.2.2.1 = cc) (hd : decode cc pc = .ok (.ifCond .ne off, 3)) (hj : jmp pc off = some t) : wp d M pc ls (.int x :: st) σ Q = if ¬ x = 0 then wp d M t ls st σ Q else wp d M (pc + 3) ls st σ Q := by
  rw [wp_ifc hc hd hj]
  exact wp_br (P := ¬ x = 0) rfl
theorem wp_if_lt {off : Int} {t : Nat} {x : Int32} (hc : M.2.2.1 = cc) (hd : decode cc pc = .ok (.ifCond .lt off, 3)) (hj : jmp pc off = some t) : wp d M pc ls (.int x :: st) σ Q = if x < 0 then wp d M t ls st σ Q else wp d M (pc + 3) ls st σ Q := by
  rw [wp_ifc hc hd hj]
  exact wp_br (P := x < 0) rfl
theorem wp_if_ge {off : Int} {t : Nat} {x : Int32} (hc : M.2.2.1 = cc) (hd : decode cc pc = .ok (.ifCond .ge off, 3)) (hj : jmp pc off = some t) : wp d M pc ls (.int x :: st) σ Q = if 0 ≤ x then wp d M t ls st σ Q else wp d M (pc + 3) ls st σ Q := by
  rw [wp_ifc hc hd hj]
  exact wp_br (P := 0 ≤ x) rfl
theorem wp_if_gt {off : Int} {t : Nat} {x : Int32} (hc : M.2.2.1 = cc) (hd : decode cc pc = .ok (.ifCond .gt off, 3)) (hj : jmp pc off = some t) : wp d M pc ls (.int x :: st) σ Q = if 0 < x then wp d M t ls st σ Q else wp d M (pc + 3) ls st σ Q := by
  rw [wp_ifc hc hd hj]
  exact wp_br (P := 0 < x) rfl
theorem wp_if_le {off : Int} {t : Nat} {x : Int32} (hc : M.2.2.1 = cc) (hd : decode cc pc = .ok (.ifCond .le off, 3)) (hj : jmp pc off = some t) : wp d M pc ls (.int x :: st) σ Q = if x ≤ 0 then wp d M t ls st σ Q else wp d M (pc + 3) ls st σ Q := by
  rw [wp_ifc hc hd hj]
  exact wp_br (P := x ≤ 0) rfl
theorem wp_ic_eq {off : Int} {t : Nat} {x y : Int32} (hc : M.2.2.1 = cc) (hd : decode cc pc = .ok (.if_icmp .eq off, 3)) (hj : jmp pc off = some t) : wp d M pc ls (.int y :: .int x :: st) σ Q = if x = y then wp d M t ls st σ Q else wp d M (pc + 3) ls st σ Q := by
  rw [wp_icm hc hd hj]
  exact wp_br (P := x = y) rfl
theorem wp_ic_ne {off : Int} {t : Nat} {x y : Int32} (hc : M.2.2.1 = cc) (hd : decode cc pc = .ok (.if_icmp .ne off, 3)) (hj : jmp pc off = some t) : wp d M pc ls (.int y :: .int x :: st) σ Q = if ¬ x = y then wp d M t ls st σ Q else wp d M (pc + 3) ls st σ Q := by
  rw [wp_icm hc hd hj]
  exact wp_br (P := ¬ x = y) rfl
theorem wp_ic_lt {off : Int} {t : Nat} {x y : Int32} (hc : M.2.2.1 = cc) (hd : decode cc pc = .ok (.if_icmp .lt off, 3)) (hj : jmp pc off = some t) : wp d M pc ls (.int y :: .int x :: st) σ Q = if x < y then wp d M t ls st σ Q else wp d M (pc + 3) ls st σ Q := by
  rw [wp_icm hc hd hj]
  exact wp_br (P := x < y) rfl
theorem wp_ic_ge {off : Int} {t : Nat} {x y : Int32} (hc : M.2.2.1 = cc) (hd : decode cc pc = .ok (.if_icmp .ge off, 3)) (hj : jmp pc off = some t) : wp d M pc ls (.int y :: .int x :: st) σ Q = if y ≤ x then wp d M t ls st σ Q else wp d M (pc + 3) ls st σ Q := by
  rw [wp_icm hc hd hj]
  exact wp_br (P := y ≤ x) rfl
theorem wp_ic_gt {off : Int} {t : Nat} {x y : Int32} (hc : M.2.2.1 = cc) (hd : decode cc pc = .ok (.if_icmp .gt off, 3)) (hj : jmp pc off = some t) : wp d M pc ls (.int y :: .int x :: st) σ Q = if y < x then wp d M t ls st σ Q else wp d M (pc + 3) ls st σ Q := by
  rw [wp_icm hc hd hj]
  exact wp_br (P := y < x) rfl
theorem wp_ic_le {off : Int} {t : Nat} {x y : Int32} (hc : M.2.2.1 = cc) (hd : decode cc pc = .ok (.if_icmp .le off, 3)) (hj : jmp pc off = some t) : wp d M pc ls (.int y :: .int x :: st) σ Q = if x ≤ y then wp d M t ls st σ Q else wp d M (pc + 3) ls st σ Q := by
  rw [wp_icm hc hd hj]
  exact wp_br (P := x ≤ y) rfl
theorem wp_rtI {x : Int32} (hc : M.2.2.1 = cc) (hd : decode cc pc = .ok (.ireturn, 1)) (hr : M.2.2.2.2 = some .int) : wp d M pc ls [.int x] σ Q = Q (.int x) σ := wp_rtn (dcq hc hd) (by simp only [rtn, hr])
theorem wp_rtZ {x : Int32} (hc : M.2.2.1 = cc) (hd : decode cc pc = .ok (.ireturn, 1)) (hr : M.2.2.2.2 = some .boolean) (h : x = 0 ∨ x = 1) : wp d M pc ls [.int x] σ Q = Q (.int x) σ := wp_rtn (dcq hc hd) (by simp only [rtn, hr, h, if_true])
theorem wp_rtL {x : Int64} (hc : M.2.2.1 = cc) (hd : decode cc pc = .ok (.lreturn, 1)) (hr : M.2.2.2.2 = some .long) : wp d M pc ls [.long x] σ Q = Q (.long x) σ := wp_rtn (dcq hc hd) (by simp only [rtn, hr])
theorem wp_rtV (hc : M.2.2.1 = cc) (hd : decode cc pc = .ok (.return_, 1)) (hr : M.2.2.2.2 = none) : wp d M pc ls [] σ Q = Q .null σ := wp_rtn (dcq hc hd) (by simp only [rtn, hr])
theorem wp_getI {ix c j k : Nat} (hc : M.2.2.1 = cc) (hd : decode cc pc = .ok (.getfield ix, 3)) (hf : fldT M.1 ix = some (c, j)) (ht : skF (tyT c j) = 0 ∨ skF (tyT c j) = 2) (h : shO k = some c) : wp d M pc ls (.ref k :: st) (rn I L) Q = wp d M (pc + 3) ls (.int (I k j) :: st) (rn I L) Q := by
  have hk := shO_lt h
  refine wp_stp (dcq hc hd) rfl rfl ?_
  simp only [stp, getF, hf, rn, h, decide_true, Bool.and_true, hk, if_true]
  rcases ht with q | q <;> rw [q] <;> rfl
theorem wp_getL {ix c j k : Nat} (hc : M.2.2.1 = cc) (hd : decode cc pc = .ok (.getfield ix, 3)) (hf : fldT M.1 ix = some (c, j)) (ht : skF (tyT c j) = 1) (h : shO k = some c) : wp d M pc ls (.ref k :: st) (rn I L) Q = wp d M (pc + 3) ls (.long (L k j) :: st) (rn I L) Q := by
  have hk := shO_lt h
  refine wp_stp (dcq hc hd) rfl rfl ?_
  simp only [stp, getF, hf, rn, h, decide_true, Bool.and_true, hk, if_true, ht]
theorem wp_getA {ix c j k : Nat} (hc : M.2.2.1 = cc) (hd : decode cc pc = .ok (.getfield ix, 3)) (hf : fldT M.1 ix = some (c, j)) (ht : skF (tyT c j) = 3) (h : shO k = some c) : wp d M pc ls (.ref k :: st) (rn I L) Q = wp d M (pc + 3) ls (.ref (Rf k j) :: st) (rn I L) Q := by
  have hk := shO_lt h
  refine wp_stp (dcq hc hd) rfl rfl ?_
  simp only [stp, getF, hf, rn, h, decide_true, Bool.and_true, hk, if_true, ht]
theorem wp_putI {ix c j k : Nat} {x : Int32} (hc : M.2.2.1 = cc) (hd : decode cc pc = .ok (.putfield ix, 3)) (hf : fldT M.1 ix = some (c, j)) (ht : skF (tyT c j) = 0) (h : shO k = some c) : wp d M pc ls (.int x :: .ref k :: st) (rn I L) Q = wp d M (pc + 3) ls st (rn (up2 I k j x) L) Q := by
  have hk := shO_lt h
  refine wp_stp (dcq hc hd) rfl rfl ?_
  simp only [stp, putF, hf, rn, h, decide_true, Bool.and_true, hk, if_true, ht]
theorem wp_putZ {ix c j k : Nat} {x : Int32} (hc : M.2.2.1 = cc) (hd : decode cc pc = .ok (.putfield ix, 3)) (hf : fldT M.1 ix = some (c, j)) (ht : skF (tyT c j) = 2) (h : shO k = some c) (hz : x = 0 ∨ x = 1) : wp d M pc ls (.int x :: .ref k :: st) (rn I L) Q = wp d M (pc + 3) ls st (rn (up2 I k j x) L) Q := by
  have hk := shO_lt h
  refine wp_stp (dcq hc hd) rfl rfl ?_
  simp only [stp, putF, hf, rn, h, decide_true, Bool.and_true, hk, if_true, ht, hz]
theorem wp_putL {ix c j k : Nat} {x : Int64} (hc : M.2.2.1 = cc) (hd : decode cc pc = .ok (.putfield ix, 3)) (hf : fldT M.1 ix = some (c, j)) (ht : skF (tyT c j) = 1) (h : shO k = some c) : wp d M pc ls (.long x :: .ref k :: st) (rn I L) Q = wp d M (pc + 3) ls st (rn I (up2L L k j x)) Q := by
  have hk := shO_lt h
  refine wp_stp (dcq hc hd) rfl rfl ?_
  simp only [stp, putF, hf, rn, h, decide_true, Bool.and_true, hk, if_true, ht]
theorem wp_iald {k : Nat} {i : Int32} (hc : M.2.2.1 = cc) (hd : decode cc pc = .ok (.iaload, 1)) (h : tyA k = 0) (hi : inA i (lenA k) = true) : wp d M pc ls (.int i :: .ref k :: st) (rn I L) Q = wp d M (pc + 1) ls (.int (I k i.toNatClampNeg) :: st) (rn I L) Q := by
  have hs := shA_of h (by omega)
  have hk := shA_lt hs
  refine wp_stp (dcq hc hd) rfl rfl ?_
  simp only [stp, rdI, hs, rn, hk, decide_true, beq_self_eq_true, Bool.and_true, hi, if_true, show ¬ k = 1000 by omega, if_false]
theorem wp_zald {k : Nat} {i : Int32} (hc : M.2.2.1 = cc) (hd : decode cc pc = .ok (.baload, 1)) (h : tyA k = 2) (hi : inA i (lenA k) = true) : wp d M pc ls (.int i :: .ref k :: st) (rn I L) Q = wp d M (pc + 1) ls (.int (I k i.toNatClampNeg) :: st) (rn I L) Q := by
  have hs := shA_of h (by omega)
  have hk := shA_lt hs
  refine wp_stp (dcq hc hd) rfl rfl ?_
  simp only [stp, rdI, hs, rn, hk, decide_true, beq_self_eq_true, Bool.and_true, hi, if_true, show ¬ k = 1000 by omega, if_false]
theorem wp_lald {k : Nat} {i : Int32} (hc : M.2.2.1 = cc) (hd : decode cc pc = .ok (.laload, 1)) (h : tyA k = 1) (hi : inA i (lenA k) = true) : wp d M pc ls (.int i :: .ref k :: st) (rn I L) Q = wp d M (pc + 1) ls (.long (L k i.toNatClampNeg) :: st) (rn I L) Q := by
  have hs := shA_of h (by omega)
  have hk := shA_lt hs
  refine wp_stp (dcq hc hd) rfl rfl ?_
  simp only [stp, rdL, hs, rn, hk, decide_true, beq_self_eq_true, Bool.and_true, hi, if_true]
theorem wp_aald {k : Nat} {i : Int32} (hc : M.2.2.1 = cc) (hd : decode cc pc = .ok (.aaload, 1)) (h : 3 ≤ tyA k ∧ tyA k < 999) (hi : inA i (lenA k) = true) : wp d M pc ls (.int i :: .ref k :: st) (rn I L) Q = wp d M (pc + 1) ls (.ref (Rf k i.toNatClampNeg) :: st) (rn I L) Q := by
  have hs := shA_of (t := tyA k) rfl h.2
  have hk := shA_lt hs
  refine wp_stp (dcq hc hd) rfl rfl ?_
  simp only [stp, rdA, hs, rn, hk, h.1, decide_true, Bool.and_true, hi, if_true]
theorem wp_iast {k : Nat} {i x : Int32} (hc : M.2.2.1 = cc) (hd : decode cc pc = .ok (.iastore, 1)) (h : tyA k = 0) (hi : inA i (lenA k) = true) : wp d M pc ls (.int x :: .int i :: .ref k :: st) (rn I L) Q = wp d M (pc + 1) ls st (rn (up2 I k i.toNatClampNeg x) L) Q := by
  have hs := shA_of h (by omega)
  have hk := shA_lt hs
  refine wp_stp (dcq hc hd) rfl rfl ?_
  simp only [stp, wrI, hs, rn, hk, decide_true, beq_self_eq_true, Bool.and_true, hi, if_true]
theorem wp_zast {k : Nat} {i x : Int32} (hc : M.2.2.1 = cc) (hd : decode cc pc = .ok (.bastore, 1)) (h : tyA k = 2) (hi : inA i (lenA k) = true) : wp d M pc ls (.int x :: .int i :: .ref k :: st) (rn I L) Q = wp d M (pc + 1) ls st (rn (up2 I k i.toNatClampNeg (vp_nar .boolean x)) L) Q := by
  have hs := shA_of h (by omega)
  have hk := shA_lt hs
  refine wp_stp (dcq hc hd) rfl rfl ?_
  simp only [stp, wrI, hs, rn, hk, decide_true, beq_self_eq_true, Bool.and_true, hi, if_true]
theorem wp_last {k : Nat} {i : Int32} {x : Int64} (hc : M.2.2.1 = cc) (hd : decode cc pc = .ok (.lastore, 1)) (h : tyA k = 1) (hi : inA i (lenA k) = true) : wp d M pc ls (.long x :: .int i :: .ref k :: st) (rn I L) Q = wp d M (pc + 1) ls st (rn I (up2L L k i.toNatClampNeg x)) Q := by
  have hs := shA_of h (by omega)
  have hk := shA_lt hs
  refine wp_stp (dcq hc hd) rfl rfl ?_
  simp only [stp, wrL, hs, rn, hk, decide_true, beq_self_eq_true, Bool.and_true, hi, if_true]
theorem wp_alen {k n : Nat} (hc : M.2.2.1 = cc) (hd : decode cc pc = .ok (.arraylength, 1)) (h : tyA k < 999) (hn : lenA k = n) : wp d M pc ls (.ref k :: st) (rn I L) Q = wp d M (pc + 1) ls (.int (nI n) :: st) (rn I L) Q := by
  have hs := shA_of (t := tyA k) rfl h
  have hk := shA_lt hs
  subst hn
  refine wp_stp (dcq hc hd) rfl rfl ?_
  simp only [stp, lenOf, hs, rn, hk, show ¬ k = 1000 by omega, if_false, if_true, Option.map_some]
  rfl
theorem wp_slen (hc : M.2.2.1 = cc) (hd : decode cc pc = .ok (.arraylength, 1)) : wp d M pc ls (.ref 1000 :: st) (rn I L) Q = wp d M (pc + 1) ls (.int (nI (I 1001 0).toNatClampNeg) :: st) (rn I L) Q := wp_stp (dcq hc hd) rfl rfl rfl
theorem wp_sld {i : Int32} (hc : M.2.2.1 = cc) (hd : decode cc pc = .ok (.iaload, 1)) (hi : inA i (I 1001 0).toNatClampNeg = true) : wp d M pc ls (.int i :: .ref 1000 :: st) (rn I L) Q = wp d M (pc + 1) ls (.int (I 1000 i.toNatClampNeg) :: st) (rn I L) Q := by
  refine wp_stp (dcq hc hd) rfl rfl ?_
  simp only [stp, rdI, rn, hi, if_true, decide_true, Bool.and_self]
theorem wp_copy {ix q k : Nat} {Y : MI} {n dp sp : Int32} (hc : M.2.2.1 = cc) (hd : decode cc pc = .ok (.invokestatic ix, 3)) (hi : invT M.1 ix = some (5, Y)) (hk : tyA k = 0) (hq : tyA q = 0) (hs : (st.map fun v => v.category).sum ≤ 8) (g1 : ¬ sp < 0) (g2 : ¬ dp < 0) (g3 : ¬ n < 0) (g4 : sp.toNatClampNeg + n.toNatClampNeg ≤ lenA k) (g5 : dp.toNatClampNeg + n.toNatClampNeg ≤ lenA q) : wp d M pc ls (.int n :: .int dp :: .ref q :: .int sp :: .ref k :: st) (rn I L) Q = wp d M (pc + 3) ls st (rn (va_up I q (va_cpy (I k) (I q) sp.toNatClampNeg dp.toNatClampNeg n.toNatClampNeg)) L) Q := by
  have hsk := shA_of hk (by omega)
  have hsq := shA_of hq (by omega)
  have hk1 := shA_lt hsk
  have hq1 := shA_lt hsq
  refine wp_stp (dcq hc hd) rfl (by simp only [cal, hi]) ?_
  simp only [stp, hi, hsk, hsq, rn, hs, hk1, hq1, g1, g2, g3, g4, g5, decide_true, beq_self_eq_true, Bool.and_true, if_true, not_false_eq_true]
theorem wp_max {ix : Nat} {Y : MI} {x y : Int32} (hc : M.2.2.1 = cc) (hd : decode cc pc = .ok (.invokestatic ix, 3)) (hi : invT M.1 ix = some (6, Y)) (hs : (st.map fun v => v.category).sum ≤ 8) : wp d M pc ls (.int y :: .int x :: st) σ Q = wp d M (pc + 3) ls (.int (if x < y then y else x) :: st) σ Q := wp_stp (dcq hc hd) rfl (by simp only [cal, hi]) (by simp only [stp, hi, hs, decide_true, if_true])
theorem wp_min {ix : Nat} {Y : MI} {x y : Int32} (hc : M.2.2.1 = cc) (hd : decode cc pc = .ok (.invokestatic ix, 3)) (hi : invT M.1 ix = some (7, Y)) (hs : (st.map fun v => v.category).sum ≤ 8) : wp d M pc ls (.int y :: .int x :: st) σ Q = wp d M (pc + 3) ls (.int (if y < x then y else x) :: st) σ Q := wp_stp (dcq hc hd) rfl (by simp only [cal, hi]) (by simp only [stp, hi, hs, decide_true, if_true])
theorem wp_abs {ix : Nat} {Y : MI} {x : Int64} (hc : M.2.2.1 = cc) (hd : decode cc pc = .ok (.invokestatic ix, 3)) (hi : invT M.1 ix = some (8, Y)) (hs : (st.map fun v => v.category).sum ≤ 8) : wp d M pc ls (.long x :: st) σ Q = wp d M (pc + 3) ls (.long (if 0 < x then x else -x) :: st) σ Q := wp_stp (dcq hc hd) rfl (by simp only [cal, hi]) (by simp only [stp, hi, hs, decide_true, if_true])
theorem wp_minL {ix : Nat} {Y : MI} {x y : Int64} (hc : M.2.2.1 = cc) (hd : decode cc pc = .ok (.invokestatic ix, 3)) (hi : invT M.1 ix = some (9, Y)) (hs : (st.map fun v => v.category).sum ≤ 8) : wp d M pc ls (.long y :: .long x :: st) σ Q = wp d M (pc + 3) ls (.long (if y < x then y else x) :: st) σ Q := wp_stp (dcq hc hd) rfl (by simp only [cal, hi]) (by simp only [stp, hi, hs, decide_true, if_true])
/-- a switch, place by place -/
def swt (k : Nat → Prop) (df : Nat) (x : Int32) : Nat → List Nat → Prop
  | _, [] => k df
  | lo, t :: ts => if x = nI lo then k t else swt k df x (lo + 1) ts
theorem swt_eq (k : Nat → Prop) (df : Nat) (x : Int32) : ∀ (ts : List Nat) (lo : Nat), lo + ts.length < 2 ^ 31 → swt k df x lo ts = k (if (lo : Int) ≤ x.toInt ∧ x.toInt < lo + ts.length then ts.getD (x.toInt - lo).toNat df else df) := by
  intro ts
  induction ts with
  | nil =>
    intro lo h
    rw [swt, if_neg (by simp only [List.length_nil]; omega)]
  | cons t ts ih =>
    intro lo h
    rw [swt]
    have hl : (t :: ts).length = ts.length + 1 := rfl
    by_cases e : x = nI lo
    · have ex : x.toInt = lo := by rw [e]; exact nI_toInt (by omega)
      rw [if_pos e, if_pos (by rw [ex, hl]; omega), ex, show ((lo : Int) - lo).toNat = 0 by omega]
      rfl
    · have ex : x.toInt ≠ lo := fun q => e (Int32.toInt_inj.mp (by rw [q, nI_toInt (by omega)]))
      rw [if_neg e, ih (lo + 1) (by omega)]
      by_cases c : ((lo + 1 : Nat) : Int) ≤ x.toInt ∧ x.toInt < (lo + 1 : Nat) + ts.length
      · rw [if_pos c, if_pos (by rw [hl]; omega), show (x.toInt - (lo : Int)).toNat = (x.toInt - ((lo + 1 : Nat) : Int)).toNat + 1 by omega]
        rfl
      · rw [if_neg c, if_neg (by rw [hl]; omega)]
/-- the jumps of a switch -/
def jmps (pc : Nat) (offs : List Int) : List (Option Nat) := offs.map (jmp pc)
theorem wp_tsw {dflt lo hi : Int} {offs : Array Int} {len lo' df : Nat} {ts : List Nat} {x : Int32} (hc : M.2.2.1 = cc) (hd : decode cc pc = .ok (.tableswitch dflt lo hi offs, len)) (h1 : lo = (lo' : Int)) (h2 : hi = (lo' : Int) + ts.length - 1) (h3 : jmp pc dflt = some df) (h4 : jmps pc offs.toList = ts.map some) (h5 : lo' + ts.length < 2 ^ 31) : wp d M pc ls (.int x :: st) σ Q = swt (fun t => wp d M t ls st σ Q) df x lo' ts := by
  rw [swt_eq _ _ _ _ _ h5]
  refine wp_stp (dcq hc hd) rfl rfl ?_
  simp only [stp]
  have key : tsw pc dflt lo hi offs x = some (if (lo' : Int) ≤ x.toInt ∧ x.toInt < lo' + ts.length then ts.getD (x.toInt - lo').toNat df else df) := by
    unfold tsw
    by_cases c : (lo' : Int) ≤ x.toInt ∧ x.toInt < lo' + ts.length
    · rw [if_neg (by omega), if_pos c]
      have hlen : offs.toList.length = ts.length := by
        have := congrArg List.length h4
        simpa [jmps] using this
      have hlt : (x.toInt - lo').toNat < ts.length := by omega
      have ho : (x.toInt - lo').toNat < offs.toList.length := by omega
      have e1 : offs[(x.toInt - lo).toNat]? = some (offs.toList[(x.toInt - lo').toNat]'ho) := by
        rw [h1, ← Array.getElem?_toList, List.getElem?_eq_getElem ho]
      rw [e1]
      simp only
      have e2 := congrArg (fun l => l[(x.toInt - lo').toNat]?) h4
      simp only [jmps, List.getElem?_map, List.getElem?_eq_getElem ho, List.getElem?_eq_getElem hlt, Option.map_some] at e2
      rw [Option.some.inj e2, List.getD_eq_getElem?_getD, List.getElem?_eq_getElem hlt]
      rfl
    · rw [if_pos (by omega), if_neg c, h3]
  rw [key]
/-- a call with what it takes lying open -/
theorem wp_callV {ix k : Nat} {Y : MI} {as rest ls2 : List Value} (hc : M.2.2.1 = cc) (hd : decode cc pc = .ok (.invokevirtual ix, 3)) (hi : invT M.1 ix = some (0, Y)) (hn : nAr Y = as.length) (hs : (rest.map fun v => v.category).sum ≤ 8) (hl : (epd (.ref k :: as)).length ≤ Y.2.2.2.1) (he : ety Y (.ref k :: as) = ls2) (h : shO k = some Y.1) (hst : st = as.reverse ++ .ref k :: rest) : wp (d + 1) M pc ls st (rn I L) Q = wp d Y 0 ls2 [] (rn I L) (fun v τ => wp (d + 1) M (pc + 3) ls (if Y.2.2.2.2.isSome then v :: rest else rest) τ Q) := by
  subst he; subst hst
  have hk := shO_lt h
  have e1 : List.drop (nAr Y) (as.reverse ++ .ref k :: rest) = .ref k :: rest := by rw [hn, ← List.length_reverse]; exact List.drop_left
  have e2 : (List.take (nAr Y) (as.reverse ++ .ref k :: rest)).reverse = as := by rw [hn, ← List.length_reverse, List.take_left, List.reverse_reverse]
  refine wp_cal (dcq hc hd) (by unfold rtn; rfl) ?_ hl
  simp only [cal, hi, e1, e2, rn, hk, h, hs, decide_true, Bool.and_true, if_true]
theorem wp_callS {ix : Nat} {Y : MI} {as rest ls2 : List Value} (hc : M.2.2.1 = cc) (hd : decode cc pc = .ok (.invokestatic ix, 3)) (hi : invT M.1 ix = some (1, Y)) (hn : nAr Y = as.length) (hs : (rest.map fun v => v.category).sum ≤ 8) (hl : (epd as).length ≤ Y.2.2.2.1) (he : ety Y as = ls2) (hst : st = as.reverse ++ rest) : wp (d + 1) M pc ls st σ Q = wp d Y 0 ls2 [] σ (fun v τ => wp (d + 1) M (pc + 3) ls (if Y.2.2.2.2.isSome then v :: rest else rest) τ Q) := by
  subst he; subst hst
  have e1 : List.drop (nAr Y) (as.reverse ++ rest) = rest := by rw [hn, ← List.length_reverse]; exact List.drop_left
  have e2 : (List.take (nAr Y) (as.reverse ++ rest)).reverse = as := by rw [hn, ← List.length_reverse, List.take_left, List.reverse_reverse]
  refine wp_cal (dcq hc hd) (by unfold rtn; rfl) ?_ hl
  have e3 : nAr Y ≤ (as.reverse ++ rest).length := by rw [hn, List.length_append, List.length_reverse]; omega
  simp only [cal, hi, e1, e2, e3, hs, decide_true, Bool.and_true, if_true]
end Wps
