/-! the small machine: its steps -/
abbrev mCls (M : MI) : Nat := M.1
abbrev mNam (M : MI) : MethodName := M.2.1
abbrev mCod (M : MI) : ByteArray := M.2.2.1
abbrev mMax (M : MI) : Nat := M.2.2.2.1
abbrev mRet (M : MI) : Option FieldType := M.2.2.2.2
def up2 (I : Nat → Nat → Int32) (k j : Nat) (x : Int32) : Nat → Nat → Int32 := va_up I k (upd (I k) j x)
def up2L (L : Nat → Nat → Int64) (k j : Nat) (x : Int64) : Nat → Nat → Int64 := va_up L k (vp_updL (L k) j x)
def up2F (F : Nat → Nat → Bool) (k j : Nat) : Nat → Nat → Bool := va_up F k (va_up (F k) j true)
def cnd (c : ClassFile.Cond) (x y : Int32) : Bool := match c with
  | .eq => decide (x = y)
  | .ne => decide (¬ x = y)
  | .lt => decide (x < y)
  | .ge => decide (y ≤ x)
  | .gt => decide (y < x)
  | .le => decide (x ≤ y)
/-- where a jump leads, if not ahead of the code -/
def jmp (pc : Nat) (off : Int) : Option Nat := match (pc : Int) + off with
  | .ofNat n => some n
  | .negSucc _ => none
def tsw (pc : Nat) (dflt lo hi : Int) (offs : Array Int) (x : Int32) : Option Nat :=
  if x.toInt < lo ∨ hi < x.toInt then jmp pc dflt else match offs[(x.toInt - lo).toNat]? with
    | some o => jmp pc o
    | none => none
/-- the place ahead of a stored one loses a long that reached into it -/
def lpre (ls : List Value) (i : Nat) : List Value := match i with
  | 0 => ls
  | j + 1 => match ls[j]? with
    | some v => if v.category = 2 then ls.set j .null else ls
    | none => ls
def lst1 (ls : List Value) (i : Nat) (v : Value) : List Value := (lpre ls i).set i v
def lst2 (ls : List Value) (i : Nat) (v : Value) : List Value := ((lpre ls i).set i v).set (i + 1) .null
abbrev Nx : Type := Nat × List Value × List Value × Sg
def ldI (ls : List Value) (i : Nat) (pc : Nat) (st : List Value) (σ : Sg) : Option Nx := match ls[i]? with
  | some (.int x) => some (pc, ls, .int x :: st, σ)
  | _ => none
def ldL (ls : List Value) (i : Nat) (pc : Nat) (st : List Value) (σ : Sg) : Option Nx := match ls[i]? with
  | some (.long x) => some (pc, ls, .long x :: st, σ)
  | _ => none
def ldA (ls : List Value) (i : Nat) (pc : Nat) (st : List Value) (σ : Sg) : Option Nx := match ls[i]? with
  | some (.ref x) => some (pc, ls, .ref x :: st, σ)
  | _ => none
def stI (ls : List Value) (i : Nat) (pc : Nat) (st : List Value) (σ : Sg) : Option Nx := match st with
  | .int x :: st => if i < ls.length then some (pc, lst1 ls i (.int x), st, σ) else none
  | _ => none
def stA (ls : List Value) (i : Nat) (pc : Nat) (st : List Value) (σ : Sg) : Option Nx := match st with
  | .ref x :: st => if i < ls.length then some (pc, lst1 ls i (.ref x), st, σ) else none
  | _ => none
def stL (ls : List Value) (i : Nat) (pc : Nat) (st : List Value) (σ : Sg) : Option Nx := match st with
  | .long x :: st => if i + 1 < ls.length then some (pc, lst2 ls i (.long x), st, σ) else none
  | _ => none
def bI (f : Int32 → Int32 → Int32) (ls : List Value) (pc : Nat) (st : List Value) (σ : Sg) : Option Nx := match st with
  | .int y :: .int x :: st => some (pc, ls, .int (f x y) :: st, σ)
  | _ => none
def bL (f : Int64 → Int64 → Int64) (ls : List Value) (pc : Nat) (st : List Value) (σ : Sg) : Option Nx := match st with
  | .long y :: .long x :: st => some (pc, ls, .long (f x y) :: st, σ)
  | _ => none
/-- division: not by 0 -/
def bD (f : Int64 → Int64 → Int64) (ls : List Value) (pc : Nat) (st : List Value) (σ : Sg) : Option Nx := match st with
  | .long y :: .long x :: st => if y = 0 then none else some (pc, ls, .long (f x y) :: st, σ)
  | _ => none
def bS (f : Int64 → Int32 → Int64) (ls : List Value) (pc : Nat) (st : List Value) (σ : Sg) : Option Nx := match st with
  | .int y :: .long x :: st => some (pc, ls, .long (f x y) :: st, σ)
  | _ => none
def uI (f : Int32 → Int32) (ls : List Value) (pc : Nat) (st : List Value) (σ : Sg) : Option Nx := match st with
  | .int x :: st => some (pc, ls, .int (f x) :: st, σ)
  | _ => none
def inA (i : Int32) (n : Nat) : Bool := !(decide (i < 0) || decide (n ≤ i.toNatClampNeg))
/-- the script stands at place 1000, its length at 1001 -/
def lenOf (σ : Sg) (k : Nat) : Option Nat := if k = 1000 then some (σ.2.2.1 1001 0).toNatClampNeg else if k < σ.1 then (shA k).map (fun a => a.2) else none
def rdI (ty : Nat) (ls : List Value) (pc : Nat) (st : List Value) (σ : Sg) : Option Nx := match st with
  | .int i :: .ref k :: st =>
    if k = 1000 then (if ty = 0 && inA i (σ.2.2.1 1001 0).toNatClampNeg then some (pc, ls, .int (σ.2.2.1 1000 i.toNatClampNeg) :: st, σ) else none)
    else match shA k with
      | some (t, n) => if k < σ.1 && t == ty && inA i n then some (pc, ls, .int (σ.2.2.1 k i.toNatClampNeg) :: st, σ) else none
      | none => none
  | _ => none
def rdL (ls : List Value) (pc : Nat) (st : List Value) (σ : Sg) : Option Nx := match st with
  | .int i :: .ref k :: st => match shA k with
      | some (t, n) => if k < σ.1 && t == 1 && inA i n then some (pc, ls, .long (σ.2.2.2 k i.toNatClampNeg) :: st, σ) else none
      | none => none
  | _ => none
def rdA (ls : List Value) (pc : Nat) (st : List Value) (σ : Sg) : Option Nx := match st with
  | .int i :: .ref k :: st => match shA k with
      | some (t, n) => if k < σ.1 && decide (3 ≤ t) && inA i n && σ.2.1 k i.toNatClampNeg then some (pc, ls, .ref (Rf k i.toNatClampNeg) :: st, σ) else none
      | none => none
  | _ => none
def wrI (ty : Nat) (f : Int32 → Int32) (ls : List Value) (pc : Nat) (st : List Value) (σ : Sg) : Option Nx := match st with
  | .int x :: .int i :: .ref k :: st => match shA k with
      | some (t, n) => if k < σ.1 && t == ty && inA i n then some (pc, ls, st, (σ.1, σ.2.1, up2 σ.2.2.1 k i.toNatClampNeg (f x), σ.2.2.2)) else none
      | none => none
  | _ => none
def wrL (ls : List Value) (pc : Nat) (st : List Value) (σ : Sg) : Option Nx := match st with
  | .long x :: .int i :: .ref k :: st => match shA k with
      | some (t, n) => if k < σ.1 && t == 1 && inA i n then some (pc, ls, st, (σ.1, σ.2.1, σ.2.2.1, up2L σ.2.2.2 k i.toNatClampNeg x)) else none
      | none => none
  | _ => none
def wrA (ls : List Value) (pc : Nat) (st : List Value) (σ : Sg) : Option Nx := match st with
  | .ref q :: .int i :: .ref k :: st => match shA k with
      | some (t, n) => if k < σ.1 && q < σ.1 && decide (shO q = some (t - 3)) && decide (3 ≤ t) && inA i n && q == Rf k i.toNatClampNeg then some (pc, ls, st, (σ.1, up2F σ.2.1 k i.toNatClampNeg, σ.2.2.1, σ.2.2.2)) else none
      | none => none
  | _ => none
def getF (M : MI) (ix : Nat) (ls : List Value) (pc : Nat) (st : List Value) (σ : Sg) : Option Nx := match st with
  | .ref k :: st => match fldT M.1 ix with
    | some (c, j) => if k < σ.1 && decide (shO k = some c) then (match skF (tyT c j) with
        | 1 => some (pc, ls, .long (σ.2.2.2 k j) :: st, σ)
        | 3 => if σ.2.1 k j then some (pc, ls, .ref (Rf k j) :: st, σ) else none
        | _ => some (pc, ls, .int (σ.2.2.1 k j) :: st, σ)) else none
    | none => none
  | _ => none
def putF (M : MI) (ix : Nat) (ls : List Value) (pc : Nat) (st : List Value) (σ : Sg) : Option Nx := match st with
  | v :: .ref k :: st => match fldT M.1 ix with
    | some (c, j) => if k < σ.1 && decide (shO k = some c) then (match skF (tyT c j), v with
        | 0, .int x => some (pc, ls, st, (σ.1, σ.2.1, up2 σ.2.2.1 k j x, σ.2.2.2))
        | 1, .long x => some (pc, ls, st, (σ.1, σ.2.1, σ.2.2.1, up2L σ.2.2.2 k j x))
        | 2, .int x => if x = 0 ∨ x = 1 then some (pc, ls, st, (σ.1, σ.2.1, up2 σ.2.2.1 k j x, σ.2.2.2)) else none
        | 3, .ref q => if q < σ.1 && q == Rf k j && (M.2.1.name == "<init>") && c == M.1 then some (pc, ls, st, (σ.1, up2F σ.2.1 k j, σ.2.2.1, σ.2.2.2)) else none
        | _, _ => none) else none
    | none => none
  | _ => none
/-- a new place: as its shape says, with zeros -/
def born (σ : Sg) : Sg := (σ.1 + 1, va_up σ.2.1 σ.1 (fun _ => false), va_up σ.2.2.1 σ.1 (fun _ => 0), va_up σ.2.2.2 σ.1 (fun _ => 0))
def newA (t : Nat) (ls : List Value) (pc : Nat) (st : List Value) (σ : Sg) : Option Nx := match st with
  | .int n :: st => if σ.1 < NN && decide (shA σ.1 = some (t, n.toNatClampNeg)) && decide (¬ n < 0) then some (pc, ls, .ref σ.1 :: st, born σ) else none
  | _ => none
def arT (t : ArrayType) : Nat := match t with
  | .int => 0
  | .long => 1
  | .boolean => 2
  | _ => 1000
/-- one instruction that is no call and no return -/
def stp (M : MI) (ins : Instr) (len pc : Nat) (ls st : List Value) (σ : Sg) : Option Nx := match ins, len with
  | .iconst n, 1 => some (pc + 1, ls, .int (Int32.ofInt n) :: st, σ)
  | .bipush n, 2 => some (pc + 2, ls, .int (Int8.ofInt n).toInt32 :: st, σ)
  | .sipush n, 3 => some (pc + 3, ls, .int (Int16.ofInt n).toInt32 :: st, σ)
  | .lconst n, 1 => some (pc + 1, ls, .long (Int64.ofNat n.val) :: st, σ)
  | .ldc i, 2 => match cstT M.1 i with
    | some v => some (pc + 2, ls, .int v :: st, σ)
    | none => none
  | .ldc2_w i, 3 => match cslT M.1 i with
    | some v => some (pc + 3, ls, .long v :: st, σ)
    | none => none
  | .iload_n k, 1 => ldI ls k.val (pc + 1) st σ
  | .lload_n k, 1 => ldL ls k.val (pc + 1) st σ
  | .aload_n k, 1 => ldA ls k.val (pc + 1) st σ
  | .iload i, 2 => ldI ls i (pc + 2) st σ
  | .lload i, 2 => ldL ls i (pc + 2) st σ
  | .aload i, 2 => ldA ls i (pc + 2) st σ
  | .istore_n k, 1 => stI ls k.val (pc + 1) st σ
  | .lstore_n k, 1 => stL ls k.val (pc + 1) st σ
  | .astore_n k, 1 => stA ls k.val (pc + 1) st σ
  | .istore i, 2 => stI ls i (pc + 2) st σ
  | .lstore i, 2 => stL ls i (pc + 2) st σ
  | .astore i, 2 => stA ls i (pc + 2) st σ
  | .iinc i n, 3 => match ls[i]? with
    | some (.int x) => some (pc + 3, lst1 ls i (.int (x + Int32.ofInt n)), st, σ)
    | _ => none
  | .iadd, 1 => bI (fun x y => x + y) ls (pc + 1) st σ
  | .isub, 1 => bI (fun x y => x - y) ls (pc + 1) st σ
  | .imul, 1 => bI (fun x y => x * y) ls (pc + 1) st σ
  | .iand, 1 => bI (fun x y => x &&& y) ls (pc + 1) st σ
  | .ior, 1 => bI (fun x y => x ||| y) ls (pc + 1) st σ
  | .ixor, 1 => bI (fun x y => x ^^^ y) ls (pc + 1) st σ
  | .ishl, 1 => bI (fun x y => x <<< (y &&& 31)) ls (pc + 1) st σ
  | .ishr, 1 => bI (fun x y => x >>> (y &&& 31)) ls (pc + 1) st σ
  | .ineg, 1 => uI (fun x => -x) ls (pc + 1) st σ
  | .i2b, 1 => uI (fun x => x.toInt8.toInt32) ls (pc + 1) st σ
  | .i2s, 1 => uI (fun x => x.toInt16.toInt32) ls (pc + 1) st σ
  | .i2l, 1 => match st with
    | .int x :: st => some (pc + 1, ls, .long x.toInt64 :: st, σ)
    | _ => none
  | .l2i, 1 => match st with
    | .long x :: st => some (pc + 1, ls, .int x.toInt32 :: st, σ)
    | _ => none
  | .lneg, 1 => match st with
    | .long x :: st => some (pc + 1, ls, .long (-x) :: st, σ)
    | _ => none
  | .lcmp, 1 => match st with
    | .long y :: .long x :: st => some (pc + 1, ls, .int (lg_cmp x y) :: st, σ)
    | _ => none
  | .ladd, 1 => bL (fun x y => x + y) ls (pc + 1) st σ
  | .lsub, 1 => bL (fun x y => x - y) ls (pc + 1) st σ
  | .lmul, 1 => bL (fun x y => x * y) ls (pc + 1) st σ
  | .land, 1 => bL (fun x y => x &&& y) ls (pc + 1) st σ
  | .lor, 1 => bL (fun x y => x ||| y) ls (pc + 1) st σ
  | .ldiv, 1 => bD (fun x y => x / y) ls (pc + 1) st σ
  | .lrem, 1 => bD (fun x y => x - x / y * y) ls (pc + 1) st σ
  | .lshl, 1 => bS (fun x y => x <<< (y.toInt64 &&& 63)) ls (pc + 1) st σ
  | .lshr, 1 => bS (fun x y => x >>> (y.toInt64 &&& 63)) ls (pc + 1) st σ
  | .dup, 1 => match st with
    | v :: st => if v.category = 1 then some (pc + 1, ls, v :: v :: st, σ) else none
    | _ => none
  | .dup_x1, 1 => match st with
    | v :: u :: st => if v.category = 1 ∧ u.category = 1 then some (pc + 1, ls, v :: u :: v :: st, σ) else none
    | _ => none
  | .dup2, 1 => match st with
    | v :: u :: st => if v.category = 1 ∧ u.category = 1 then some (pc + 1, ls, v :: u :: v :: u :: st, σ) else none
    | _ => none
  | .ifCond c off, 3 => match st with
    | .int x :: st => match jmp pc off with
      | some t => some (if cnd c x 0 then t else pc + 3, ls, st, σ)
      | none => none
    | _ => none
  | .if_icmp c off, 3 => match st with
    | .int y :: .int x :: st => match jmp pc off with
      | some t => some (if cnd c x y then t else pc + 3, ls, st, σ)
      | none => none
    | _ => none
  | .goto off, 3 => match jmp pc off with
    | some t => some (t, ls, st, σ)
    | none => none
  | .tableswitch dflt lo hi offs, _ => match st with
    | .int x :: st => match tsw pc dflt lo hi offs x with
      | some t => some (t, ls, st, σ)
      | none => none
    | _ => none
  | .iaload, 1 => rdI 0 ls (pc + 1) st σ
  | .baload, 1 => rdI 2 ls (pc + 1) st σ
  | .laload, 1 => rdL ls (pc + 1) st σ
  | .aaload, 1 => rdA ls (pc + 1) st σ
  | .iastore, 1 => wrI 0 (fun x => x) ls (pc + 1) st σ
  | .bastore, 1 => wrI 2 (fun x => vp_nar .boolean x) ls (pc + 1) st σ
  | .lastore, 1 => wrL ls (pc + 1) st σ
  | .aastore, 1 => wrA ls (pc + 1) st σ
  | .arraylength, 1 => match st with
    | .ref k :: st => match lenOf σ k with
      | some n => some (pc + 1, ls, .int (Int32.ofNat n) :: st, σ)
      | none => none
    | _ => none
  | .getfield ix, 3 => getF M ix ls (pc + 3) st σ
  | .putfield ix, 3 => putF M ix ls (pc + 3) st σ
  | .new ix, 3 => match newT M.1 ix with
    | some c => if σ.1 < NN && decide (shO σ.1 = some c) then some (pc + 3, ls, .ref σ.1 :: st, born σ) else none
    | none => none
  | .newarray t, 2 => newA (arT t) ls (pc + 2) st σ
  | .anewarray ix, 3 => match newT M.1 ix with
    | some c => newA (3 + c) ls (pc + 3) st σ
    | none => none
  | .invokespecial ix, 3 => match invT M.1 ix, st with
    | some (4, _), .ref k :: st => if decide ((st.map fun v => v.category).sum ≤ 8) then some (pc + 3, ls, st, σ) else none
    | _, _ => none
  | .invokestatic ix, 3 => match invT M.1 ix, st with
    | some (5, _), .int n :: .int dp :: .ref q :: .int sp :: .ref k :: st =>
      (match shA k, shA q with
      | some (t0, n0), some (t1, n1) => if decide ((st.map fun v => v.category).sum ≤ 8) && k < σ.1 && q < σ.1 && t0 == 0 && t1 == 0 && decide (¬ sp < 0) && decide (¬ dp < 0) && decide (¬ n < 0) && decide (sp.toNatClampNeg + n.toNatClampNeg ≤ n0) && decide (dp.toNatClampNeg + n.toNatClampNeg ≤ n1) then
          some (pc + 3, ls, st, (σ.1, σ.2.1, va_up σ.2.2.1 q (va_cpy (σ.2.2.1 k) (σ.2.2.1 q) sp.toNatClampNeg dp.toNatClampNeg n.toNatClampNeg), σ.2.2.2)) else none
      | _, _ => none)
    | some (6, _), .int y :: .int x :: st => if decide ((st.map fun v => v.category).sum ≤ 8) then some (pc + 3, ls, .int (if x < y then y else x) :: st, σ) else none
    | some (7, _), .int y :: .int x :: st => if decide ((st.map fun v => v.category).sum ≤ 8) then some (pc + 3, ls, .int (if y < x then y else x) :: st, σ) else none
    | some (8, _), .long x :: st => if decide ((st.map fun v => v.category).sum ≤ 8) then some (pc + 3, ls, .long (if 0 < x then x else -x) :: st, σ) else none
    | some (9, _), .long y :: .long x :: st => if decide ((st.map fun v => v.category).sum ≤ 8) then some (pc + 3, ls, .long (if y < x then y else x) :: st, σ) else none
    | _, _ => none
  | _, _ => none
/-- a return -/
def rtn (M : MI) (ins : Instr) (len : Nat) (st : List Value) : Option Value := match ins, len, st with
  | .ireturn, 1, [.int x] => match M.2.2.2.2 with
    | some .int => some (.int x)
    | some .boolean => if x = 0 ∨ x = 1 then some (.int x) else none
    | _ => none
  | .lreturn, 1, [.long x] => match M.2.2.2.2 with
    | some .long => some (.long x)
    | _ => none
  | .return_, 1, [] => match M.2.2.2.2 with
    | none => some .null
    | _ => none
  | _, _, _ => none
/-- how many values a method takes, itself not counted -/
def nAr (Y : MI) : Nat := ((parseMethodDescriptor Y.2.1.desc).map (fun d => d.parameters.length)).getD 0
/-- a call: the method, its arguments, what is left on the stack -/
def cal (M : MI) (ins : Instr) (len : Nat) (st : List Value) (σ : Sg) : Option (MI × List Value × List Value) := match ins, len with
  | .invokevirtual ix, 3 => match invT M.1 ix with
    | some (0, Y) => match st.drop (nAr Y) with
      | .ref k :: rest => if decide (k < σ.1) && decide (shO k = some Y.1) && decide ((rest.map fun v => v.category).sum ≤ 8) then some (Y, .ref k :: (st.take (nAr Y)).reverse, rest) else none
      | _ => none
    | _ => none
  | .invokestatic ix, 3 => match invT M.1 ix with
    | some (1, Y) => if decide (nAr Y ≤ st.length) && decide (((st.drop (nAr Y)).map fun v => v.category).sum ≤ 8) then some (Y, (st.take (nAr Y)).reverse, st.drop (nAr Y)) else none
    | _ => none
  | .invokespecial ix, 3 => match invT M.1 ix, st with
    | some (2, Y), .ref k :: rest => if decide ((rest.map fun v => v.category).sum ≤ 8) then some (Y, [.ref k], rest) else none
    | some (3, Y), .ref k :: rest => if decide ((rest.map fun v => v.category).sum ≤ 8) then some (Y, [.ref k], rest) else none
    | _, _ => none
  | _, _ => none
/-- the locals at a method's entry -/
def epd : List Value → List Value
  | [] => []
  | v :: as => if v.category = 2 then v :: .null :: epd as else v :: epd as
def ety (Y : MI) (as : List Value) : List Value := epd as ++ List.replicate (Y.2.2.2.1 - (epd as).length) .null
def ev : Nat → Nat → MI → Nat → List Value → List Value → Sg → Option (Value × Sg)
  | 0, _, _, _, _, _, _ => none
  | f + 1, d, M, pc, ls, st, σ => match decode M.2.2.1 pc with
    | .error _ => none
    | .ok (ins, len) => match rtn M ins len st with
      | some v => some (v, σ)
      | none => match cal M ins len st σ with
        | some (Y, as, rest) => match d with
          | 0 => none
          | d + 1 => if (epd as).length ≤ Y.2.2.2.1 then (match ev f d Y 0 (ety Y as) [] σ with
            | none => none
            | some (v, σ') => ev f (d + 1) M (pc + 3) ls (if Y.2.2.2.2.isSome then v :: rest else rest) σ') else none
        | none => match stp M ins len pc ls st σ with
          | none => none
          | some (pc', ls', st', σ') => ev f d M pc' ls' st' σ'
theorem ev_more : ∀ (f d : Nat) (M : MI) (pc : Nat) (ls st : List Value) (σ : Sg) (r : Value × Sg), ev f d M pc ls st σ = some r → ev (f + 1) d M pc ls st σ = some r := by
  intro f
  induction f with
  | zero => intro d M pc ls st σ r h; simp [ev] at h
  | succ f ih =>
    intro d M pc ls st σ r h
    rw [ev] at h ⊢
    cases hd : decode M.2.2.1 pc with
    | error x => rw [hd] at h; simp at h
    | ok q =>
      obtain ⟨ins, len⟩ := q
      rw [hd] at h
      simp only at h ⊢
      cases hr : rtn M ins len st with
      | some v => rw [hr] at h; simpa using h
      | none =>
        rw [hr] at h
        simp only at h ⊢
        cases hc : cal M ins len st σ with
        | some q =>
          obtain ⟨Y, as, rest⟩ := q
          rw [hc] at h
          simp only at h ⊢
          cases d with
          | zero => simp at h
          | succ d =>
            simp only at h ⊢
            by_cases hl : (epd as).length ≤ Y.2.2.2.1
            · rw [if_pos hl] at h ⊢
              cases h1 : ev f d Y 0 (ety Y as) [] σ with
              | none => rw [h1] at h; simp at h
              | some q =>
                rw [h1] at h
                rw [ih _ _ _ _ _ _ _ h1]
                exact ih _ _ _ _ _ _ _ h
            · rw [if_neg hl] at h; cases h
        | none =>
          rw [hc] at h
          simp only at h ⊢
          cases hs : stp M ins len pc ls st σ with
          | none => rw [hs] at h; simp at h
          | some q => 
            obtain ⟨pc', ls', st', σ'⟩ := q
            rw [hs] at h
            simp only at h ⊢
            exact ih _ _ _ _ _ _ _ h
theorem ev_le {f g d : Nat} {M : MI} {pc : Nat} {ls st : List Value} {σ : Sg} {r : Value × Sg} (hfg : f ≤ g) (h : ev f d M pc ls st σ = some r) : ev g d M pc ls st σ = some r := by
  induction hfg with
  | refl => exact h
  | step _ ih => exact ev_more _ _ _ _ _ _ _ _ ih
/-- from here the machine comes to a return with Q of its answer and of what it leaves -/
def wp (d : Nat) (M : MI) (pc : Nat) (ls st : List Value) (σ : Sg) (Q : Value → Sg → Prop) : Prop := ∃ (f : Nat) (v : Value) (σ' : Sg), ev f d M pc ls st σ = some (v, σ') ∧ Q v σ'
theorem wp_mono {d : Nat} {M : MI} {pc : Nat} {ls st : List Value} {σ : Sg} {Q Q' : Value → Sg → Prop} (h : wp d M pc ls st σ Q) (k : ∀ v σ', Q v σ' → Q' v σ') : wp d M pc ls st σ Q' := by
  obtain ⟨f, v, σ', h1, h2⟩ := h
  exact ⟨f, v, σ', h1, k _ _ h2⟩
theorem wp_stp {d : Nat} {M : MI} {pc : Nat} {ls st : List Value} {σ : Sg} {Q : Value → Sg → Prop} {ins : Instr} {len pc' : Nat} {ls' st' : List Value} {σ' : Sg} (hd : decode M.2.2.1 pc = .ok (ins, len)) (hr : rtn M ins len st = none) (hc : cal M ins len st σ = none) (hs : stp M ins len pc ls st σ = some (pc', ls', st', σ')) : wp d M pc ls st σ Q = wp d M pc' ls' st' σ' Q := by
  have e : ∀ f, ev (f + 1) d M pc ls st σ = ev f d M pc' ls' st' σ' := by
    intro f
    rw [ev, hd]
    simp only [hr, hc, hs]
  apply propext
  constructor
  · rintro ⟨f, v, s', h1, h2⟩
    cases f with
    | zero => simp [ev] at h1
    | succ f => exact ⟨f, v, s', by rw [← e]; exact h1, h2⟩
  · rintro ⟨f, v, s', h1, h2⟩
    exact ⟨f + 1, v, s', by rw [e]; exact h1, h2⟩
theorem wp_rtn {d : Nat} {M : MI} {pc : Nat} {ls st : List Value} {σ : Sg} {Q : Value → Sg → Prop} {ins : Instr} {len : Nat} {v : Value} (hd : decode M.2.2.1 pc = .ok (ins, len)) (hr : rtn M ins len st = some v) : wp d M pc ls st σ Q = Q v σ := by
  have e : ∀ f, ev (f + 1) d M pc ls st σ = some (v, σ) := by
    intro f
    rw [ev, hd]
    simp only [hr]
  apply propext
  constructor
  · rintro ⟨f, v', s', h1, h2⟩
    cases f with
    | zero => simp [ev] at h1
    | succ f =>
      rw [e] at h1
      cases h1
      exact h2
  · intro h
    exact ⟨1, v, σ, e 0, h⟩
theorem wp_cal {d : Nat} {M : MI} {pc : Nat} {ls st : List Value} {σ : Sg} {Q : Value → Sg → Prop} {ins : Instr} {len : Nat} {Y : MI} {as rest : List Value} (hd : decode M.2.2.1 pc = .ok (ins, len)) (hr : rtn M ins len st = none) (hc : cal M ins len st σ = some (Y, as, rest)) (hl : (epd as).length ≤ Y.2.2.2.1) : wp (d + 1) M pc ls st σ Q = wp d Y 0 (ety Y as) [] σ (fun v σ' => wp (d + 1) M (pc + 3) ls (if Y.2.2.2.2.isSome then v :: rest else rest) σ' Q) := by
  have e : ∀ f, ev (f + 1) (d + 1) M pc ls st σ = match ev f d Y 0 (ety Y as) [] σ with
            | none => none
            | some (v, σ') => ev f (d + 1) M (pc + 3) ls (if Y.2.2.2.2.isSome then v :: rest else rest) σ' := by
    intro f
    rw [ev, hd]
    simp only [hr, hc, if_pos hl]
  apply propext
  constructor
  · rintro ⟨f, v, s', h1, h2⟩
    cases f with
    | zero => simp [ev] at h1
    | succ f =>
      rw [e] at h1
      cases h3 : ev f d Y 0 (ety Y as) [] σ with
      | none => rw [h3] at h1; simp at h1
      | some q =>
        obtain ⟨u, s2⟩ := q
        rw [h3] at h1
        exact ⟨f, u, s2, h3, f, v, s', h1, h2⟩
  · rintro ⟨f, u, s2, h3, g, v, s', h1, h2⟩
    refine ⟨max f g + 1, v, s', ?_, h2⟩
    rw [e, ev_le (Nat.le_max_left f g) h3]
    exact ev_le (Nat.le_max_right f g) h1
