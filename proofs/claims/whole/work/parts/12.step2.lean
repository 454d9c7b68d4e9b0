/-! making places, rows of objects, copying, what the library gives; all steps together -/
section Step2
variable {p : Program} {l : Launch} {e : Env} {R : Room} {s : State} {m : MethodId} {args : Array Value} {below : List Frame} {meth : Method} {c : Code} {H : Heap} {locs : List Loc} {cells slots : Nat} {Q : State → Prop}
variable {M : MI} {base b L : Nat} {xs : Nat → Int32} {cy : Nat → ClassId} {D : va_G}
theorem so_wrA (C : Cx p s m args meth c M base b L xs cy D) {pc pc' : Nat} {ls ls' st st' : List Value} {σ σ' : Sg} {lsM : Array Slot} (hd : decode M.2.2.1 pc = .ok (.aastore, 1)) (h : wrA ls (pc + 1) st σ = some (pc', ls', st', σ')) (hH : HR base L xs cy D s σ H locs) (hl : LR base b ls M.2.2.2.1 lsM)
    (kk : ∀ (H' : Heap) (locs' : List Loc) (lsM' : Array Slot), HR base L xs cy D s σ' H' locs' → LR base b ls' M.2.2.2.1 lsM' → W p l e R s m args below meth c H' locs' (cells + (σ'.1 - σ.1)) (slots + (szs σ'.1 - szs σ.1)) Q (F0 m pc' lsM' (List.map (adv base b) st'))) : W p l e R s m args below meth c H locs cells slots Q (F0 m pc lsM (List.map (adv base b) st)) := by
  obtain ⟨hx, hb, hml, hown, hts, hK, hX, hbl, hbs, hin, hM⟩ := C
  unfold wrA at h
  split at h
  · next q i k st0 =>
    split at h
    · next t n ea =>
      split at h
      · next hc =>
        cases h
        simp only [Nat.sub_self, Nat.add_zero] at kk
        simp only [Bool.and_eq_true, decide_eq_true_eq, beq_iff_eq] at hc
        obtain ⟨⟨⟨⟨⟨hk1, hq1⟩, hqo⟩, ht⟩, hc⟩, hqe⟩ := hc
        have hc := inA_iff hc
        have hk96 : @LT.lt Nat _ k 96 := shA_lt ea
        have hq96 : @LT.lt Nat _ q 96 := shO_lt hqo
        obtain ⟨a1, a2, a3⟩ := tb_ar k hk96 _ ea
        simp only at a1 a2 a3
        rw [List.map_cons, List.map_cons, List.map_cons, show adv base b (.ref k) = .ref (base + k) from (by show Value.ref (adr base b k) = _; rw [adr_lt (by omega)]), show adv base b (.ref q) = .ref (base + q) from (by show Value.ref (adr base b q) = _; rw [adr_lt (by omega)])]
        have hat : (wld base cy σ)[k]? = some (base + k, .inl (cy t, n, .inr (.inr (.inr (.inr (fun j => if σ.2.1 k j then some (base + Rf k j) else none)))))) := by
          rw [wld_at hk1, ent_arr ea]
          unfold entA
          rw [if_neg (by omega), if_pos ht]
        have hv : (wld base cy σ)[q]? = some (base + q, .inr (t - 3, entO base σ (t - 3) q)) := by rw [wld_at hq1, ent_obj hqo]
        have fin : ∀ (H1 : Heap) (locs1 : List Loc), va_P D vwCl ((wld base cy σ).set k (base + k, .inl (cy t, n, .inr (.inr (.inr (.inr (va_up (fun j => if σ.2.1 k j then some (base + Rf k j) else none) i.toNatClampNeg (some (base + q))))))))) H1 → va_S (fun q : Nat => base ≤ q) s.heap H1 locs1 → W p l e R s m args below meth c H1 locs1 cells slots Q (F0 m (pc + 1) lsM (List.map (adv base b) st')) := by
          intro H1 locs1 hP1 hS1
          refine kk H1 locs1 lsM ⟨?_, hS1, hH.2.2.1, hH.2.2.2.1, hH.2.2.2.2⟩ hl
          rw [← wld_set (σ := σ) (τ := (σ.1, up2F σ.2.1 k i.toNatClampNeg, σ.2.2.1, σ.2.2.2)) (k := k) rfl hk1 (fun q hq => ⟨up2F_ne hq, rfl, rfl⟩), ent_arr ea]
          unfold entA
          rw [if_neg (by omega), if_pos ht]
          have ef : (fun j => if (up2F σ.2.1 k i.toNatClampNeg) k j then some (base + Rf k j) else none) = va_up (fun j => if σ.2.1 k j then some (base + Rf k j) else none) i.toNatClampNeg (some (base + q)) := by
            funext j
            rw [up2F_eq]
            by_cases e1 : j = i.toNatClampNeg
            · subst e1; simp [va_up, hqe]
            · simp [va_up, e1]
          show va_P D vwCl ((wld base cy σ).set k (base + k, .inl (cy t, n, .inr (.inr (.inr (.inr (fun j => if (up2F σ.2.1 k i.toNatClampNeg) k j then some (base + Rf k j) else none))))))) H1
          rw [ef]
          exact hP1
        rcases a1 with z | z | z | z | z | z
        · omega
        · omega
        · omega
        · subst z; exact va_astq (r := (clsN 0, tabT 0, nfT 0)) hx hb hK hH.1 wld_D hH.2.1 k 3 q 0 hat rfl hv (tb_cl 0 (by omega)) hc hd (fun H1 locs1 hP1 _ hS1 => fin H1 locs1 hP1 hS1)
        · subst z; exact va_astq (r := (clsN 4, tabT 4, nfT 4)) hx hb hK hH.1 wld_D hH.2.1 k 4 q 4 hat rfl hv (tb_cl 4 (by omega)) hc hd (fun H1 locs1 hP1 _ hS1 => fin H1 locs1 hP1 hS1)
        · subst z; exact va_astq (r := (clsN 7, tabT 7, nfT 7)) hx hb hK hH.1 wld_D hH.2.1 k 5 q 7 hat rfl hv (tb_cl 7 (by omega)) hc hd (fun H1 locs1 hP1 _ hS1 => fin H1 locs1 hP1 hS1)
      · cases h
    · cases h
  · cases h
theorem wld_born {σ : Sg} : wld base cy σ ++ [(base + σ.1, ent base cy (born σ) σ.1)] = wld base cy (born σ) := by
  unfold wld
  rw [show (born σ).1 = σ.1 + 1 from rfl, List.range_succ, List.map_append]
  congr 1
  apply List.map_congr_left
  intro k hk
  have hk := List.mem_range.mp hk
  rw [ent_congr (σ := σ) (τ := born σ) (vu_ne (by omega)) (vu_ne (by omega)) (vu_ne (by omega))]
theorem sz_obj {k cc : Nat} (h : shO k = some cc) : sz1 k = nfT cc := by
  unfold shO at h
  unfold sz1
  split at h
  · next e1 => cases h; rw [e1]
  · cases h
theorem sz_arr {k : Nat} {a : Nat × Nat} (h : shA k = some a) : sz1 k = a.2 := by
  unfold shA at h
  unfold sz1
  split at h
  · next e1 => cases h; rw [e1]
  · cases h
/-- the new cell lies behind all others -/
theorem born_at {σ : Sg} {q : Nat} {x : va_E} {H1 : Heap} (hP : va_P D vwCl (wld base cy σ ++ [(q, x)]) H1) (hD : va_D (fun q : Nat => base ≤ q) (wld base cy σ ++ [(q, x)])) (hs : H1.size ≤ base + σ.1 + 1) : q = base + σ.1 := by
  have e1 : (wld base cy σ ++ [(q, x)])[σ.1]? = some (q, x) := by
    rw [List.getElem?_append_right (by rw [wld_len]; omega), wld_len, Nat.sub_self]
    rfl
  have h1 := (hP σ.1 _ e1).lt
  have h2 := hD.2 σ.1 _ e1
  simp only at h1 h2
  rcases Nat.lt_or_ge (q - base) σ.1 with g | g
  · have e2 : (wld base cy σ ++ [(q, x)])[q - base]? = some (base + (q - base), ent base cy σ (q - base)) := by
      rw [List.getElem?_append_left (by rw [wld_len]; exact g), wld_at g]
    have := hD.1 σ.1 (q - base) _ _ e1 e2 (by simp only; omega)
    omega
  · omega
set_option maxRecDepth 100000 in
theorem tb_dv : ∀ c, c < 11 → ∀ k, k < nfT c → defaultValue (tyT c k) = (match skF (tyT c k) with
  | 1 => .long 0
  | 3 => .null
  | _ => .int 0) := by decide +kernel
theorem so_new (C : Cx p s m args meth c M base b L xs cy D) {ix pc cc : Nat} {ls st : List Value} {σ : Sg} {lsM : Array Slot} (hd : decode M.2.2.1 pc = .ok (.new ix, 3)) (hn : newT M.1 ix = some cc) (h1 : σ.1 < NN) (h2 : shO σ.1 = some cc) (hsz : s.heap.size + cells = base + σ.1) (hR : cells + 1 ≤ R.cells ∧ slots + sz1 σ.1 ≤ R.slots) (hH : HR base L xs cy D s σ H locs) (hl : LR base b ls M.2.2.2.1 lsM)
    (kk : ∀ (H' : Heap) (locs' : List Loc), HR base L xs cy D s (born σ) H' locs' → W p l e R s m args below meth c H' locs' (cells + 1) (slots + sz1 σ.1) Q (F0 m (pc + 3) lsM (.ref (base + σ.1) :: List.map (adv base b) st))) : W p l e R s m args below meth c H locs cells slots Q (F0 m pc lsM (List.map (adv base b) st)) := by
  obtain ⟨hx, hb, hml, hown, hts, hK, hX, hbl, hbs, hin, hM⟩ := C
  obtain ⟨t1, t2, t3, t4⟩ := tb_new hM _ (lk_mem hn)
  simp only at t1 t2 t3 t4
  rw [sz_obj h2] at hR kk
  refine va_new (ci := cc) (fs := entO base (born σ) cc σ.1) (C := clsN cc) (T := tabT cc) (N := nfT cc) hx hb hts (tb_ws cc t2) (tyT cc) (tb_ty cc t2) hown (hts _ t1) (hts _ t3) (hts _ t4) hK hH.1 wld_D hH.2.1 (fun q hq => by omega) (tb_cl cc t2) (fun j hj => ?_) hR.1 hR.2 hd (fun q H1 hP1 hD1 hS1 => ?_)
  · rw [tb_dv cc t2 j hj, vp_V, List.getD_eq_getElem?_getD, entO_at hj]
    simp only [Option.getD_some, fvl, born, vu_eq]
    split <;> simp_all
  · refine W_size (fun hz => ?_)
    have eq := born_at hP1 hD1 (by omega)
    subst eq
    refine kk H1 locs ⟨?_, hS1, h1, ?_, ?_⟩
    · rw [← wld_born, ent_obj h2]; exact hP1
    · show va_up σ.2.2.1 σ.1 (fun _ => 0) 1000 = xs
      have : σ.1 < 96 := h1
      rw [vu_ne (by omega)]; exact hH.2.2.2.1
    · show va_up σ.2.2.1 σ.1 (fun _ => 0) 1001 0 = _
      have : σ.1 < 96 := h1
      rw [vu_ne (by omega)]; exact hH.2.2.2.2
/-- a new row, whatever its kind: what is left to show behind it -/
theorem so_newR {t n q : Nat} {cA : ClassId} {x : vp_A} {σ : Sg} {H1 : Heap} {pc : Nat} {lsM : Array Slot} {stM : List Value} (h1 : σ.1 < NN) (h2 : shA σ.1 = some (t, n)) (hc : cA = cy t) (hx : (cy t, x) = entA base cy (born σ) t n σ.1) (hsz : s.heap.size + cells = base + σ.1) (hH : HR base L xs cy D s σ H locs)
    (kk : ∀ (H' : Heap) (locs' : List Loc), HR base L xs cy D s (born σ) H' locs' → W p l e R s m args below meth c H' locs' (cells + 1) (slots + n) Q (F0 m pc lsM (.ref (base + σ.1) :: stM))) (hP1 : va_P D vwCl (wld base cy σ ++ [(q, .inl (cA, x))]) H1) (hD1 : va_D (fun q : Nat => base ≤ q) (wld base cy σ ++ [(q, .inl (cA, x))])) (hS1 : va_S (fun q : Nat => base ≤ q) s.heap H1 locs) : W p l e R s m args below meth c H1 locs (cells + 1) (slots + n) Q (F0 m pc lsM (.ref q :: stM)) := by
  refine W_size (fun hz => ?_)
  have eq := born_at hP1 hD1 (by omega)
  subst eq
  subst hc
  have h96 : σ.1 < 96 := h1
  refine kk H1 locs ⟨?_, hS1, h1, ?_, ?_⟩
  · rw [← wld_born, ent_arr h2, ← hx]; exact hP1
  · show va_up σ.2.2.1 σ.1 (fun _ => 0) 1000 = xs
    rw [vu_ne (by omega)]; exact hH.2.2.2.1
  · show va_up σ.2.2.1 σ.1 (fun _ => 0) 1001 0 = _
    rw [vu_ne (by omega)]; exact hH.2.2.2.2
theorem so_newA (C : Cx p s m args meth c M base b L xs cy D) {t pc : Nat} {at0 : ArrayType} {n : Int32} {ls st : List Value} {σ : Sg} {lsM : Array Slot} (hd : decode M.2.2.1 pc = .ok (.newarray at0, 2)) (ht : arT at0 = t) (h1 : σ.1 < NN) (h2 : shA σ.1 = some (t, n.toNatClampNeg)) (h3 : ¬ n < 0) (hsz : s.heap.size + cells = base + σ.1) (hR : cells + 1 ≤ R.cells ∧ slots + n.toNatClampNeg ≤ R.slots) (hH : HR base L xs cy D s σ H locs)
    (kk : ∀ (H' : Heap) (locs' : List Loc), HR base L xs cy D s (born σ) H' locs' → W p l e R s m args below meth c H' locs' (cells + 1) (slots + n.toNatClampNeg) Q (F0 m (pc + 2) lsM (.ref (base + σ.1) :: List.map (adv base b) st))) : W p l e R s m args below meth c H locs cells slots Q (F0 m pc lsM (.int n :: List.map (adv base b) st)) := by
  obtain ⟨hx, hb, hml, hown, hts, hK, hX, hbl, hbs, hin, hM⟩ := C
  obtain ⟨a1, a2, a3⟩ := tb_ar σ.1 h1 _ h2
  simp only at a1 a2 a3
  have hb8 : n.toNatClampNeg * 8 ≤ 536870912 := by omega
  cases at0 <;> simp only [arT] at ht <;> subst ht <;> try omega
  · refine va_newa (atype := .boolean) (ty := .boolean) (a0 := (n.toNatClampNeg, .inl (fun _ => 0))) hx hb (hts _ tb_acl.2.2.1) rfl hK hH.1 wld_D hH.2.1 (fun q hq => by omega) (fun cA => rfl) h3 rfl (Nat.le_trans (Nat.mul_le_mul_left _ (by decide)) hb8) hR.1 hR.2 hd (fun q cA H1 hK1 hP1 hD1 hS1 => ?_)
    have e1 : s.vm.findClass ("[" ++ FieldType.boolean.toString) = some cA := (hK1.2 6 (cA, .boolean) rfl).2
    have e2 : s.vm.findClass ("[" ++ FieldType.boolean.toString) = some (cy 2) := (hK.2 2 (cy 2, .boolean) rfl).2
    refine so_newR h1 h2 (Option.some.inj (e1.symm.trans e2)) ?_ hsz hH kk hP1 hD1 hS1
    simp only [entA, born, vu_eq]; rfl
  · refine va_newa (atype := .int) (ty := .int) (a0 := (n.toNatClampNeg, .inl (fun _ => 0))) hx hb (hts _ tb_acl.1) rfl hK hH.1 wld_D hH.2.1 (fun q hq => by omega) (fun cA => rfl) h3 rfl (Nat.le_trans (Nat.mul_le_mul_left _ (by decide)) hb8) hR.1 hR.2 hd (fun q cA H1 hK1 hP1 hD1 hS1 => ?_)
    have e1 : s.vm.findClass ("[" ++ FieldType.int.toString) = some cA := (hK1.2 6 (cA, .int) rfl).2
    have e2 : s.vm.findClass ("[" ++ FieldType.int.toString) = some (cy 0) := (hK.2 0 (cy 0, .int) rfl).2
    refine so_newR h1 h2 (Option.some.inj (e1.symm.trans e2)) ?_ hsz hH kk hP1 hD1 hS1
    simp only [entA, born, vu_eq]; rfl
  · refine va_newa (atype := .long) (ty := .long) (a0 := (n.toNatClampNeg, .inr (.inl (fun _ => 0)))) hx hb (hts _ tb_acl.2.1) rfl hK hH.1 wld_D hH.2.1 (fun q hq => by omega) (fun cA => rfl) h3 rfl (Nat.le_trans (Nat.mul_le_mul_left _ (by decide)) hb8) hR.1 hR.2 hd (fun q cA H1 hK1 hP1 hD1 hS1 => ?_)
    have e1 : s.vm.findClass ("[" ++ FieldType.long.toString) = some cA := (hK1.2 6 (cA, .long) rfl).2
    have e2 : s.vm.findClass ("[" ++ FieldType.long.toString) = some (cy 1) := (hK.2 1 (cy 1, .long) rfl).2
    refine so_newR h1 h2 (Option.some.inj (e1.symm.trans e2)) ?_ hsz hH kk hP1 hD1 hS1
    simp only [entA, born, vu_eq]; rfl
theorem so_newQ (C : Cx p s m args meth c M base b L xs cy D) {cc pc ix : Nat} {n : Int32} {ls st : List Value} {σ : Sg} {lsM : Array Slot} (hd : decode M.2.2.1 pc = .ok (.anewarray ix, 3)) (hn : newT M.1 ix = some cc) (h1 : σ.1 < NN) (h2 : shA σ.1 = some (3 + cc, n.toNatClampNeg)) (h3 : ¬ n < 0) (hsz : s.heap.size + cells = base + σ.1) (hR : cells + 1 ≤ R.cells ∧ slots + n.toNatClampNeg ≤ R.slots) (hH : HR base L xs cy D s σ H locs)
    (kk : ∀ (H' : Heap) (locs' : List Loc), HR base L xs cy D s (born σ) H' locs' → W p l e R s m args below meth c H' locs' (cells + 1) (slots + n.toNatClampNeg) Q (F0 m (pc + 3) lsM (.ref (base + σ.1) :: List.map (adv base b) st))) : W p l e R s m args below meth c H locs cells slots Q (F0 m pc lsM (.int n :: List.map (adv base b) st)) := by
  obtain ⟨hx, hb, hml, hown, hts, hK, hX, hbl, hbs, hin, hM⟩ := C
  obtain ⟨a1, a2, a3⟩ := tb_ar σ.1 h1 _ h2
  obtain ⟨t1, -, -, -⟩ := tb_new hM _ (lk_mem hn)
  simp only at a1 a2 a3 t1
  have hb4 : n.toNatClampNeg * 4 ≤ 536870912 := by omega
  have key : ∀ (z : Nat) (C0 : String), clsN cc = C0 → Cond.arrayOver (.object C0) ∈ tbw → (tysOf cy)[z]? = some (cy (3 + cc), .object C0) → W p l e R s m args below meth c H locs cells slots Q (F0 m pc lsM (.int n :: List.map (adv base b) st)) := by
    intro z C0 ec hov htz
    subst ec
    refine va_newq (C := clsN cc) hx hb hown (hts _ t1) (va_AO.of (hts _ hov)) hK hH.1 wld_D hH.2.1 (fun q hq => by omega) h3 rfl hb4 hR.1 hR.2 hd (fun q cA H1 hK1 hP1 hD1 hS1 => ?_)
    obtain ⟨_, _, _, _, _, e1⟩ := (hK1.2 6 (cA, .object (clsN cc)) rfl).2
    obtain ⟨_, _, _, _, _, e2⟩ := (hK.2 z (cy (3 + cc), .object (clsN cc)) htz).2
    refine so_newR h1 h2 (Option.some.inj (e1.symm.trans e2)) ?_ hsz hH kk hP1 hD1 hS1
    simp only [entA, born, vu_eq]
    rw [if_neg (by omega), if_pos (by omega)]
    rfl
  rcases a1 with z | z | z | z | z | z
  · omega
  · omega
  · omega
  · obtain rfl : cc = 0 := by omega
    exact key 3 RX0 rfl tb_acl.2.2.2.1 rfl
  · obtain rfl : cc = 4 := by omega
    exact key 4 RX4 rfl tb_acl.2.2.2.2.1 rfl
  · obtain rfl : cc = 7 := by omega
    exact key 5 RX7 rfl tb_acl.2.2.2.2.2 rfl
/-- ints are copied -/
theorem so_copy (C : Cx p s m args meth c M base b L xs cy D) {ix pc : Nat} {Y : MI} {n dp sp : Int32} {q k t0 n0 t1 n1 : Nat} {ls st : List Value} {σ : Sg} {lsM : Array Slot} (hd : decode M.2.2.1 pc = .ok (.invokestatic ix, 3)) (hi : invT M.1 ix = some (5, Y)) (ek : shA k = some (t0, n0)) (eq : shA q = some (t1, n1)) (hst : ((st.map fun v => v.category).sum ≤ 8)) (hk : k < σ.1) (hq : q < σ.1) (h0 : t0 = 0) (h1 : t1 = 0) (g1 : ¬ sp < 0) (g2 : ¬ dp < 0) (g3 : ¬ n < 0) (g4 : sp.toNatClampNeg + n.toNatClampNeg ≤ n0) (g5 : dp.toNatClampNeg + n.toNatClampNeg ≤ n1) (hRf : 1 ≤ R.frames) (hRl : 40 ≤ R.locals) (hH : HR base L xs cy D s σ H locs) (hl : LR base b ls M.2.2.2.1 lsM)
    (kk : ∀ (H' : Heap) (locs' : List Loc) (lsM' : Array Slot), HR base L xs cy D s (σ.1, σ.2.1, va_up σ.2.2.1 q (va_cpy (σ.2.2.1 k) (σ.2.2.1 q) sp.toNatClampNeg dp.toNatClampNeg n.toNatClampNeg), σ.2.2.2) H' locs' → LR base b ls M.2.2.2.1 lsM' → W p l e R s m args below meth c H' locs' cells slots Q (F0 m (pc + 3) lsM' (List.map (adv base b) st))) : W p l e R s m args below meth c H locs cells slots Q (F0 m pc lsM (List.map (adv base b) (.int n :: .int dp :: .ref q :: .int sp :: .ref k :: st))) := by
  obtain ⟨hx, hb, hml, hown, hts, hK, hX, hbl, hbs, hin, hM⟩ := C
  have hk96 : k < 96 := shA_lt ek
  have hq96 : q < 96 := shA_lt eq
  have hlk : Cond.methodLink (clsN M.1) ix arraycopyName ∈ tbw := tb_inv hM _ (lk_mem hi)
  subst h0; subst h1
  have hak : (wld base cy σ)[k]? = some (base + k, .inl (cy 0, n0, .inl (σ.2.2.1 k))) := by
    rw [wld_at hk, ent_arr ek]
    rfl
  have haq : (wld base cy σ)[q]? = some (base + q, .inl (cy 0, n1, .inl (σ.2.2.1 q))) := by
    rw [wld_at hq, ent_arr eq]
    rfl
  have hcat : ((List.map (adv base b) st).map fun v => v.category).sum ≤ 8 := by
    rw [List.map_map]
    have : ((fun v : Value => v.category) ∘ adv base b) = fun v : Value => v.category := by funext v; exact adv_cat base b v
    rw [this]
    exact hst
  simp only [List.map_cons]
  rw [show adv base b (.ref k) = .ref (base + k) from (by show Value.ref (adr base b k) = _; rw [adr_lt (by omega)]), show adv base b (.ref q) = .ref (base + q) from (by show Value.ref (adr base b q) = _; rw [adr_lt (by omega)])]
  refine va_copyi (ty := .int) hx hb (by rw [hml, ← hl.1]) hown (hts _ hlk) (hts _ tb_jdk.2.2.1) (hts _ tb_jdk.2.2.2.1) (hts _ tb_jdk.2.2.2.2.1) hK hH.1 wld_D hH.2.1 k q 0 0 hak haq rfl rfl rfl g1 g2 g3 g4 g5 (fun i _ => rfl) hRf ?_ hd (fun H1 locs1 hP1 _ hS1 => ?_)
  · have : nativeFrameWords "java/lang/System" "arraycopy" 5 + 11 = 18 := by decide
    omega
  · refine kk H1 locs1 lsM ⟨?_, hS1, hH.2.2.1, ?_, ?_⟩ hl
    · rw [← wld_set (σ := σ) (τ := (σ.1, σ.2.1, va_up σ.2.2.1 q (va_cpy (σ.2.2.1 k) (σ.2.2.1 q) sp.toNatClampNeg dp.toNatClampNeg n.toNatClampNeg), σ.2.2.2)) (k := q) rfl hq (fun z hz => ⟨rfl, vu_ne hz, rfl⟩), ent_arr eq]
      show va_P D vwCl ((wld base cy σ).set q (base + q, .inl (cy 0, n1, .inl (va_up σ.2.2.1 q (va_cpy (σ.2.2.1 k) (σ.2.2.1 q) sp.toNatClampNeg dp.toNatClampNeg n.toNatClampNeg) q)))) H1
      rw [vu_eq]
      exact hP1
    · show va_up σ.2.2.1 q _ 1000 = xs
      rw [vu_ne (by omega)]; exact hH.2.2.2.1
    · show va_up σ.2.2.1 q _ 1001 0 = _
      rw [vu_ne (by omega)]; exact hH.2.2.2.2
theorem so_if {cd : ClassFile.Cond} {off : Int} {pc t : Nat} {x : Int32} {lsM : Array Slot} {stM : List Value} (hx : p.tables.exec = Jvm.exec) (hb : c.code = M.2.2.1) (hd : decode M.2.2.1 pc = .ok (.ifCond cd off, 3)) (hj : (pc : Int) + off = (t : Int)) (k0 : W p l e R s m args below meth c H locs cells slots Q (F0 m (if cnd cd x 0 then t else pc + 3) lsM stM)) : W p l e R s m args below meth c H locs cells slots Q (F0 m pc lsM (Value.int x :: stM)) := by
  cases cd
  · exact lv_if_eq hx hb hd hj (fun q => by
      have e1 : cnd .eq x 0 = true := decide_eq_true q
      rw [e1] at k0
      exact k0) (fun q => by
      have e1 : cnd .eq x 0 = false := decide_eq_false q
      rw [e1] at k0
      exact k0)
  · exact lv_if_ne hx hb hd hj (fun q => by
      have e1 : cnd .ne x 0 = true := decide_eq_true q
      rw [e1] at k0
      exact k0) (fun q => by
      have e1 : cnd .ne x 0 = false := decide_eq_false (fun z => z q)
      rw [e1] at k0
      exact k0)
  · exact lv_if_lt hx hb hd hj (fun q => by
      have e1 : cnd .lt x 0 = true := decide_eq_true q
      rw [e1] at k0
      exact k0) (fun q => by
      have e1 : cnd .lt x 0 = false := decide_eq_false q
      rw [e1] at k0
      exact k0)
  · exact lv_if_ge hx hb hd hj (fun q => by
      have e1 : cnd .ge x 0 = true := decide_eq_true q
      rw [e1] at k0
      exact k0) (fun q => by
      have e1 : cnd .ge x 0 = false := decide_eq_false q
      rw [e1] at k0
      exact k0)
  · exact lv_if_gt hx hb hd hj (fun q => by
      have e1 : cnd .gt x 0 = true := decide_eq_true q
      rw [e1] at k0
      exact k0) (fun q => by
      have e1 : cnd .gt x 0 = false := decide_eq_false q
      rw [e1] at k0
      exact k0)
  · exact lv_if_le hx hb hd hj (fun q => by
      have e1 : cnd .le x 0 = true := decide_eq_true q
      rw [e1] at k0
      exact k0) (fun q => by
      have e1 : cnd .le x 0 = false := decide_eq_false q
      rw [e1] at k0
      exact k0)
theorem so_icmp {cd : ClassFile.Cond} {off : Int} {pc t : Nat} {x y : Int32} {lsM : Array Slot} {stM : List Value} (hx : p.tables.exec = Jvm.exec) (hb : c.code = M.2.2.1) (hd : decode M.2.2.1 pc = .ok (.if_icmp cd off, 3)) (hj : (pc : Int) + off = (t : Int)) (k0 : W p l e R s m args below meth c H locs cells slots Q (F0 m (if cnd cd x y then t else pc + 3) lsM stM)) : W p l e R s m args below meth c H locs cells slots Q (F0 m pc lsM (Value.int y :: Value.int x :: stM)) := by
  cases cd
  · exact lv_icmp_eq hx hb hd hj (fun q => by
      have e1 : cnd .eq x y = true := decide_eq_true q
      rw [e1] at k0
      exact k0) (fun q => by
      have e1 : cnd .eq x y = false := decide_eq_false q
      rw [e1] at k0
      exact k0)
  · exact lv_icmp_ne hx hb hd hj (fun q => by
      have e1 : cnd .ne x y = true := decide_eq_true q
      rw [e1] at k0
      exact k0) (fun q => by
      have e1 : cnd .ne x y = false := decide_eq_false (fun z => z q)
      rw [e1] at k0
      exact k0)
  · exact lv_icmp_lt hx hb hd hj (fun q => by
      have e1 : cnd .lt x y = true := decide_eq_true q
      rw [e1] at k0
      exact k0) (fun q => by
      have e1 : cnd .lt x y = false := decide_eq_false q
      rw [e1] at k0
      exact k0)
  · exact lv_icmp_ge hx hb hd hj (fun q => by
      have e1 : cnd .ge x y = true := decide_eq_true q
      rw [e1] at k0
      exact k0) (fun q => by
      have e1 : cnd .ge x y = false := decide_eq_false q
      rw [e1] at k0
      exact k0)
  · exact lv_icmp_gt hx hb hd hj (fun q => by
      have e1 : cnd .gt x y = true := decide_eq_true q
      rw [e1] at k0
      exact k0) (fun q => by
      have e1 : cnd .gt x y = false := decide_eq_false q
      rw [e1] at k0
      exact k0)
  · exact lv_icmp_le hx hb hd hj (fun q => by
      have e1 : cnd .le x y = true := decide_eq_true q
      rw [e1] at k0
      exact k0) (fun q => by
      have e1 : cnd .le x y = false := decide_eq_false q
      rw [e1] at k0
      exact k0)
theorem cat_sum (base b : Nat) (st : List Value) : ((List.map (adv base b) st).map fun v => v.category).sum = (st.map fun v => v.category).sum := by
  rw [List.map_map]
  have : ((fun v : Value => v.category) ∘ adv base b) = fun v : Value => v.category := by funext v; exact adv_cat base b v
  rw [this]
set_option maxHeartbeats 4000000 in
set_option maxRecDepth 100000 in
/-- every step -/
theorem stp_ok (C : Cx p s m args meth c M base b L xs cy D) {ins : Instr} {len pc pc' : Nat} {ls ls' st st' : List Value} {σ σ' : Sg} {lsM : Array Slot} (hd : decode M.2.2.1 pc = .ok (ins, len)) (h : stp M ins len pc ls st σ = some (pc', ls', st', σ')) (hL : L ≤ 3072) (hsz : s.heap.size + cells = base + σ.1) (hR : cells + (σ'.1 - σ.1) ≤ R.cells ∧ slots + (szs σ'.1 - szs σ.1) ≤ R.slots) (hRf : 1 ≤ R.frames) (hRl : 40 ≤ R.locals) (hH : HR base L xs cy D s σ H locs) (hl : LR base b ls M.2.2.2.1 lsM)
    (kk : ∀ (H' : Heap) (locs' : List Loc) (lsM' : Array Slot), HR base L xs cy D s σ' H' locs' → LR base b ls' M.2.2.2.1 lsM' → W p l e R s m args below meth c H' locs' (cells + (σ'.1 - σ.1)) (slots + (szs σ'.1 - szs σ.1)) Q (F0 m pc' lsM' (List.map (adv base b) st'))) : W p l e R s m args below meth c H locs cells slots Q (F0 m pc lsM (List.map (adv base b) st)) := by
  have C0 := C
  obtain ⟨hx, hb, hml, hown, hts, hK, hX, hbl, hbs, hin, hM⟩ := C
  have hsm : c.maxLocals = lsM.size := by rw [hml, hl.1]
  unfold stp at h
  split at h
  · -- iconst
    cases h; simp only [Nat.sub_self, Nat.add_zero] at kk
    exact lv_iconst hx hb hd rfl (kk H locs lsM hH hl)
  · cases h; simp only [Nat.sub_self, Nat.add_zero] at kk
    exact lv_bipush hx hb hd rfl (kk H locs lsM hH hl)
  · cases h; simp only [Nat.sub_self, Nat.add_zero] at kk
    exact lv_sipush hx hb hd rfl (kk H locs lsM hH hl)
  · cases h; simp only [Nat.sub_self, Nat.add_zero] at kk
    exact lv_lconst hx hb hd rfl (kk H locs lsM hH hl)
  · -- ldc
    split at h
    · next v ev1 =>
      cases h; simp only [Nat.sub_self, Nat.add_zero] at kk
      exact lv_ldc hx hb hown (hts _ (tb_cst hM _ (lk_mem ev1))) hd (kk H locs lsM hH hl)
    · cases h
  · split at h
    · next v ev1 =>
      cases h; simp only [Nat.sub_self, Nat.add_zero] at kk
      exact lv_ldc2 hx hb hown (hts _ (tb_csl hM _ (lk_mem ev1))) hd (kk H locs lsM hH hl)
    · cases h
  · -- loads
    unfold ldI at h; split at h
    · next x e1 => cases h; simp only [Nat.sub_self, Nat.add_zero] at kk; exact lv_iload_n hx hb hd rfl (hl.at e1 (by simp)) (kk H locs lsM hH hl)
    · cases h
  · unfold ldL at h; split at h
    · next x e1 => cases h; simp only [Nat.sub_self, Nat.add_zero] at kk; exact lv_lload_n hx hb hd rfl (hl.at e1 (by simp)) (kk H locs lsM hH hl)
    · cases h
  · unfold ldA at h; split at h
    · next x e1 => cases h; simp only [Nat.sub_self, Nat.add_zero] at kk; exact lv_aload_n hx hb hd rfl (hl.at e1 (by simp)) (kk H locs lsM hH hl)
    · cases h
  · unfold ldI at h; split at h
    · next x e1 => cases h; simp only [Nat.sub_self, Nat.add_zero] at kk; exact lv_iload hx hb hd (hl.at e1 (by simp)) (kk H locs lsM hH hl)
    · cases h
  · unfold ldL at h; split at h
    · next x e1 => cases h; simp only [Nat.sub_self, Nat.add_zero] at kk; exact lv_lload hx hb hd (hl.at e1 (by simp)) (kk H locs lsM hH hl)
    · cases h
  · unfold ldA at h; split at h
    · next x e1 => cases h; simp only [Nat.sub_self, Nat.add_zero] at kk; exact lv_aload hx hb hd (hl.at e1 (by simp)) (kk H locs lsM hH hl)
    · cases h
  · -- stores
    unfold stI at h; split at h
    · split at h
      · next hi => cases h; simp only [Nat.sub_self, Nat.add_zero] at kk; exact lv_istore_n hx hb hd rfl hl.has (by rw [← hl.2.2.1]; exact hi) rfl (fun ls2 h2 => kk H locs ls2 hH (LR.st1 hl.2.2.1 (by rw [← hl.2.2.1]; exact hi) h2))
      · cases h
    · cases h
  · unfold stL at h; split at h
    · split at h
      · next hi => cases h; simp only [Nat.sub_self, Nat.add_zero] at kk; exact lv_lstore_n hx hb hd rfl hl.has (by rw [← hl.2.2.1]; exact hi) rfl (fun ls2 h2 => kk H locs ls2 hH (LR.st2 hl.2.2.1 (by rw [← hl.2.2.1]; exact hi) h2))
      · cases h
    · cases h
  · unfold stA at h; split at h
    · split at h
      · next hi => cases h; simp only [Nat.sub_self, Nat.add_zero] at kk; exact lv_astore_n hx hb hd rfl hl.has (by rw [← hl.2.2.1]; exact hi) rfl (fun ls2 h2 => kk H locs ls2 hH (LR.st1 hl.2.2.1 (by rw [← hl.2.2.1]; exact hi) h2))
      · cases h
    · cases h
  · unfold stI at h; split at h
    · split at h
      · next hi => cases h; simp only [Nat.sub_self, Nat.add_zero] at kk; exact lv_istore hx hb hd hl.has (by rw [← hl.2.2.1]; exact hi) rfl (fun ls2 h2 => kk H locs ls2 hH (LR.st1 hl.2.2.1 (by rw [← hl.2.2.1]; exact hi) h2))
      · cases h
    · cases h
  · unfold stL at h; split at h
    · split at h
      · next hi => cases h; simp only [Nat.sub_self, Nat.add_zero] at kk; exact lv_lstore hx hb hd hl.has (by rw [← hl.2.2.1]; exact hi) rfl (fun ls2 h2 => kk H locs ls2 hH (LR.st2 hl.2.2.1 (by rw [← hl.2.2.1]; exact hi) h2))
      · cases h
    · cases h
  · unfold stA at h; split at h
    · split at h
      · next hi => cases h; simp only [Nat.sub_self, Nat.add_zero] at kk; exact lv_astore hx hb hd hl.has (by rw [← hl.2.2.1]; exact hi) rfl (fun ls2 h2 => kk H locs ls2 hH (LR.st1 hl.2.2.1 (by rw [← hl.2.2.1]; exact hi) h2))
      · cases h
    · cases h
  · -- iinc
    split at h
    · next x e1 =>
      cases h; simp only [Nat.sub_self, Nat.add_zero] at kk
      have hi := (List.getElem?_eq_some_iff.mp e1).1
      have hm := asc_mem (base := base) (b := b) e1 (by simp)
      obtain ⟨kq, hkq⟩ := List.getElem?_of_mem hm
      exact lv_iinc (k := kq) hx hb hd hl.has hkq rfl (by rw [← hl.2.2.1]; exact hi) rfl (fun ls2 h2 => kk H locs ls2 hH (LR.st1 (v := .int _) hl.2.2.1 (by rw [← hl.2.2.1]; exact hi) h2))
    · cases h
  · unfold bI at h; split at h
    · cases h; simp only [Nat.sub_self, Nat.add_zero] at kk; exact lv_iadd hx hb hd (kk H locs lsM hH hl)
    · cases h
  · unfold bI at h; split at h
    · cases h; simp only [Nat.sub_self, Nat.add_zero] at kk; exact lv_isub hx hb hd (kk H locs lsM hH hl)
    · cases h
  · unfold bI at h; split at h
    · cases h; simp only [Nat.sub_self, Nat.add_zero] at kk; exact lv_imul hx hb hd (kk H locs lsM hH hl)
    · cases h
  · unfold bI at h; split at h
    · cases h; simp only [Nat.sub_self, Nat.add_zero] at kk; exact lv_iand hx hb hd (kk H locs lsM hH hl)
    · cases h
  · unfold bI at h; split at h
    · cases h; simp only [Nat.sub_self, Nat.add_zero] at kk; exact lv_ior hx hb hd (kk H locs lsM hH hl)
    · cases h
  · unfold bI at h; split at h
    · cases h; simp only [Nat.sub_self, Nat.add_zero] at kk; exact lv_ixor hx hb hd (kk H locs lsM hH hl)
    · cases h
  · unfold bI at h; split at h
    · cases h; simp only [Nat.sub_self, Nat.add_zero] at kk; exact lv_ishl hx hb hd (kk H locs lsM hH hl)
    · cases h
  · unfold bI at h; split at h
    · cases h; simp only [Nat.sub_self, Nat.add_zero] at kk; exact lv_ishr hx hb hd (kk H locs lsM hH hl)
    · cases h
  · unfold uI at h; split at h
    · cases h; simp only [Nat.sub_self, Nat.add_zero] at kk; exact lv_ineg hx hb hd (kk H locs lsM hH hl)
    · cases h
  · unfold uI at h; split at h
    · cases h; simp only [Nat.sub_self, Nat.add_zero] at kk; exact lv_i2b hx hb hd rfl (kk H locs lsM hH hl)
    · cases h
  · unfold uI at h; split at h
    · cases h; simp only [Nat.sub_self, Nat.add_zero] at kk; exact lv_i2s hx hb hd rfl (kk H locs lsM hH hl)
    · cases h
  · split at h
    · cases h; simp only [Nat.sub_self, Nat.add_zero] at kk; exact lv_i2l hx hb hd rfl (kk H locs lsM hH hl)
    · cases h
  · split at h
    · cases h; simp only [Nat.sub_self, Nat.add_zero] at kk; exact lv_l2i hx hb hd rfl (kk H locs lsM hH hl)
    · cases h
  · split at h
    · cases h; simp only [Nat.sub_self, Nat.add_zero] at kk; exact lv_lneg hx hb hd (kk H locs lsM hH hl)
    · cases h
  · split at h
    · cases h; simp only [Nat.sub_self, Nat.add_zero] at kk; exact W.lcmp hx hb hd (kk H locs lsM hH hl)
    · cases h
  · unfold bL at h; split at h
    · cases h; simp only [Nat.sub_self, Nat.add_zero] at kk; exact lv_ladd hx hb hd (kk H locs lsM hH hl)
    · cases h
  · unfold bL at h; split at h
    · cases h; simp only [Nat.sub_self, Nat.add_zero] at kk; exact lv_lsub hx hb hd (kk H locs lsM hH hl)
    · cases h
  · unfold bL at h; split at h
    · cases h; simp only [Nat.sub_self, Nat.add_zero] at kk; exact lv_lmul hx hb hd (kk H locs lsM hH hl)
    · cases h
  · unfold bL at h; split at h
    · cases h; simp only [Nat.sub_self, Nat.add_zero] at kk; exact lv_land hx hb hd (kk H locs lsM hH hl)
    · cases h
  · unfold bL at h; split at h
    · cases h; simp only [Nat.sub_self, Nat.add_zero] at kk; exact lv_lor hx hb hd (kk H locs lsM hH hl)
    · cases h
  · unfold bD at h; split at h
    · split at h
      · cases h
      · next hy => cases h; simp only [Nat.sub_self, Nat.add_zero] at kk; exact lv_ldiv hx hb hd hy (kk H locs lsM hH hl)
    · cases h
  · unfold bD at h; split at h
    · split at h
      · cases h
      · next hy => cases h; simp only [Nat.sub_self, Nat.add_zero] at kk; exact lv_lrem hx hb hd hy (kk H locs lsM hH hl)
    · cases h
  · unfold bS at h; split at h
    · cases h; simp only [Nat.sub_self, Nat.add_zero] at kk; exact lv_lshl hx hb hd rfl (kk H locs lsM hH hl)
    · cases h
  · unfold bS at h; split at h
    · cases h; simp only [Nat.sub_self, Nat.add_zero] at kk; exact lv_lshr hx hb hd rfl (kk H locs lsM hH hl)
    · cases h
  · -- dup
    split at h
    · split at h
      · next hv => cases h; simp only [Nat.sub_self, Nat.add_zero] at kk; exact lv_dup hx hb hd (by rw [adv_cat]; exact hv) (kk H locs lsM hH hl)
      · cases h
    · cases h
  · split at h
    · split at h
      · next hv => cases h; simp only [Nat.sub_self, Nat.add_zero] at kk; exact lv_dup_x1 hx hb hd (by rw [adv_cat]; exact hv.1) (by rw [adv_cat]; exact hv.2) (kk H locs lsM hH hl)
      · cases h
    · cases h
  · split at h
    · split at h
      · next hv => cases h; simp only [Nat.sub_self, Nat.add_zero] at kk; exact lv_dup2_11 hx hb hd (by rw [adv_cat]; exact hv.1) (by rw [adv_cat]; exact hv.2) (kk H locs lsM hH hl)
      · cases h
    · cases h
  · -- ifCond
    split at h
    · split at h
      · next t ej =>
        cases h; simp only [Nat.sub_self, Nat.add_zero] at kk
        exact so_if hx hb hd (jmp_eq ej) (kk H locs lsM hH hl)
      · cases h
    · cases h
  · split at h
    · split at h
      · next t ej =>
        cases h; simp only [Nat.sub_self, Nat.add_zero] at kk
        exact so_icmp hx hb hd (jmp_eq ej) (kk H locs lsM hH hl)
      · cases h
    · cases h
  · split at h
    · next t ej => cases h; simp only [Nat.sub_self, Nat.add_zero] at kk; exact lv_goto hx hb hd (jmp_eq ej) (kk H locs lsM hH hl)
    · cases h
  · -- tableswitch
    split at h
    · split at h
      · next t ej =>
        cases h; simp only [Nat.sub_self, Nat.add_zero] at kk
        unfold tsw at ej
        split at ej
        · next ho => exact lv_tableOut hx hb hd ho (jmp_eq ej) (kk H locs lsM hH hl)
        · next ho =>
          split at ej
          · next o eo => exact lv_tableIn hx hb hd (fun q => ho (Or.inl q)) (fun q => ho (Or.inr q)) eo (jmp_eq ej) (kk H locs lsM hH hl)
          · cases ej
      · cases h
    · cases h
  · exact so_rdI C0 hd (Or.inl ⟨rfl, rfl⟩) h hL hH hl kk
  · exact so_rdI C0 hd (Or.inr ⟨rfl, rfl⟩) h hL hH hl kk
  · exact so_rdL C0 hd h hH hl kk
  · exact so_rdA C0 hd h hH hl kk
  · exact so_wrI C0 hd (Or.inl ⟨rfl, rfl, rfl⟩) h hH hl kk
  · exact so_wrI C0 hd (Or.inr ⟨rfl, rfl, rfl⟩) h hH hl kk
  · exact so_wrL C0 hd h hH hl kk
  · exact so_wrA C0 hd h hH hl kk
  · -- arraylength
    split at h
    · next k0 st0 =>
      split at h
      · next n en =>
        cases h; simp only [Nat.sub_self, Nat.add_zero] at kk
        unfold lenOf at en
        split at en
        · next ek =>
          cases en
          subst ek
          rw [List.map_cons, show adv base b (.ref 1000) = .ref b from rfl]
          refine va_slen (A := fun q : Nat => base ≤ q) hx hb hX (by omega) (by omega) hH.2.1 hd ?_
          have k1 := kk H locs lsM hH hl
          rw [hH.2.2.2.2, show (Int32.ofNat L).toNatClampNeg = L from nI_clamp (by omega)] at k1
          exact k1
        · split at en
          · next hk1 =>
            obtain ⟨a, ea, rfl⟩ := Option.map_eq_some_iff.mp en
            have hk96 : @LT.lt Nat _ k0 96 := shA_lt ea
            obtain ⟨a1, -, -⟩ := tb_ar k0 hk96 _ ea
            have hat : (wld base cy σ)[k0]? = some (base + k0, .inl (entA base cy σ a.1 a.2 k0)) := by rw [wld_at hk1, ent_arr ea]
            have hty : ∃ (z : Nat) (ty : FieldType), (tysOf cy)[z]? = some (cy a.1, ty) := by
              rcases a1 with z | z | z | z | z | z <;> rw [z]
              · exact ⟨0, _, rfl⟩
              · exact ⟨1, _, rfl⟩
              · exact ⟨2, _, rfl⟩
              · exact ⟨3, _, rfl⟩
              · exact ⟨4, _, rfl⟩
              · exact ⟨5, _, rfl⟩
            obtain ⟨z, ty, hz⟩ := hty
            rw [List.map_cons, show adv base b (.ref k0) = .ref (base + k0) from (by show Value.ref (adr base b k0) = _; rw [adr_lt (by omega)])]
            exact va_alen hx hb hK hH.1 k0 z (x := (entA base cy σ a.1 a.2 k0).2) hat hz rfl hd (kk H locs lsM hH hl)
          · cases en
      · cases h
    · cases h
  · exact so_get C0 hd h hH hl kk
  · exact so_put C0 hd h hH hl kk
  · -- new
    split at h
    · next cc en =>
      split at h
      · next hc =>
        cases h
        simp only [Bool.and_eq_true, decide_eq_true_eq] at hc
        have e1 : (born σ).1 - σ.1 = 1 := by show σ.1 + 1 - σ.1 = 1; omega
        have e2 : szs (born σ).1 - szs σ.1 = sz1 σ.1 := by show szs σ.1 + sz1 σ.1 - szs σ.1 = _; omega
        rw [e1, e2] at hR kk
        have h96 : σ.1 < 96 := hc.1
        refine so_new C0 hd en hc.1 hc.2 hsz hR hH hl (fun H' locs' hH' => ?_)
        have k1 := kk H' locs' lsM hH' hl
        rw [List.map_cons, show adv base b (.ref σ.1) = .ref (base + σ.1) from (by show Value.ref (adr base b σ.1) = _; rw [adr_lt (by omega)])] at k1
        exact k1
      · cases h
    · cases h
  · -- newarray
    unfold newA at h
    split at h
    · split at h
      · next hc =>
        cases h
        simp only [Bool.and_eq_true, decide_eq_true_eq] at hc
        have e1 : (born σ).1 - σ.1 = 1 := by show σ.1 + 1 - σ.1 = 1; omega
        have e2 : szs (born σ).1 - szs σ.1 = sz1 σ.1 := by show szs σ.1 + sz1 σ.1 - szs σ.1 = _; omega
        rw [e1, e2, sz_arr hc.1.2] at hR kk
        have h96 : σ.1 < 96 := hc.1.1
        refine so_newA C0 (ls := ls) hd rfl hc.1.1 hc.1.2 hc.2 hsz hR hH (fun H' locs' hH' => ?_)
        have k1 := kk H' locs' lsM hH' hl
        rw [List.map_cons, show adv base b (.ref σ.1) = .ref (base + σ.1) from (by show Value.ref (adr base b σ.1) = _; rw [adr_lt (by omega)])] at k1
        exact k1
      · cases h
    · cases h
  · split at h
    · next cc en =>
      unfold newA at h
      split at h
      · split at h
        · next hc =>
          cases h
          simp only [Bool.and_eq_true, decide_eq_true_eq] at hc
          have e1 : (born σ).1 - σ.1 = 1 := by show σ.1 + 1 - σ.1 = 1; omega
          have e2 : szs (born σ).1 - szs σ.1 = sz1 σ.1 := by show szs σ.1 + sz1 σ.1 - szs σ.1 = _; omega
          rw [e1, e2, sz_arr hc.1.2] at hR kk
          have h96 : σ.1 < 96 := hc.1.1
          refine so_newQ C0 (ls := ls) hd en hc.1.1 hc.1.2 hc.2 hsz hR hH (fun H' locs' hH' => ?_)
          have k1 := kk H' locs' lsM hH' hl
          rw [List.map_cons, show adv base b (.ref σ.1) = .ref (base + σ.1) from (by show Value.ref (adr base b σ.1) = _; rw [adr_lt (by omega)])] at k1
          exact k1
        · cases h
      · cases h
    · cases h
  · -- Object.<init>
    split at h
    · next ei =>
      split at h
      · next hc =>
        cases h; simp only [Nat.sub_self, Nat.add_zero] at kk
        have hlk : Cond.methodLink (clsN M.1) _ objectInit ∈ tbw := tb_inv hM _ (lk_mem ei)
        have hc := of_decide_eq_true hc
        refine W.objInit hx hb hown (hts _ hlk) (hts _ tb_jdk.1) (hts _ tb_jdk.2.1) rfl (by rw [hsm]) rfl hd hRf ?_ (kk H locs lsM hH hl)
        show 2 * 0 + _ + 12 ≤ _
        have := cat_sum base b st'
        omega
      · cases h
    · cases h
  · -- the library's static methods
    split at h
    · next ei =>
      split at h
      · next ek eq1 =>
        split at h
        · next hc =>
          cases h; simp only [Nat.sub_self, Nat.add_zero] at kk
          simp only [Bool.and_eq_true, decide_eq_true_eq, beq_iff_eq] at hc
          obtain ⟨⟨⟨⟨⟨⟨⟨⟨⟨d1, d2⟩, d3⟩, d4⟩, d5⟩, d6⟩, d7⟩, d8⟩, d9⟩, d10⟩ := hc
          exact so_copy C0 hd ei ek eq1 d1 d2 d3 d4 d5 d6 d7 d8 d9 d10 hRf hRl hH hl kk
        · cases h
      · cases h
    · next ei =>
      split at h
      · next hc =>
        cases h; simp only [Nat.sub_self, Nat.add_zero] at kk hR
        have hlk : Cond.methodLink (clsN M.1) _ Lib.Math.max.name ∈ tbw := tb_inv hM _ (lk_mem ei)
        have hc := of_decide_eq_true hc
        refine va_mmax hx hb hsm hown (hts _ hlk) (hts _ tb_jdk.2.2.2.2.2.2.1) (hts _ tb_jdk.2.2.2.2.2.1) (hts _ tb_jdk.2.2.2.2.2.2.2.1) hRf ?_ hR.1 hR.2 hd (kk H locs lsM hH hl)
        rw [cat_sum]; omega
      · cases h
    · next ei =>
      split at h
      · next hc =>
        cases h; simp only [Nat.sub_self, Nat.add_zero] at kk hR
        have hlk : Cond.methodLink (clsN M.1) _ Lib.Math.min.name ∈ tbw := tb_inv hM _ (lk_mem ei)
        have hc := of_decide_eq_true hc
        refine va_mmin hx hb hsm hown (hts _ hlk) (hts _ tb_jdk.2.2.2.2.2.2.2.2.1) (hts _ tb_jdk.2.2.2.2.2.1) (hts _ tb_jdk.2.2.2.2.2.2.2.2.2.1) hRf ?_ hR.1 hR.2 hd (kk H locs lsM hH hl)
        rw [cat_sum]; omega
      · cases h
    · next ei =>
      split at h
      · next hc =>
        cases h; simp only [Nat.sub_self, Nat.add_zero] at kk hR
        have hlk : Cond.methodLink (clsN M.1) _ Lib.MathLoose.abs_long.x ∈ tbw := tb_inv hM _ (lk_mem ei)
        have hc := of_decide_eq_true hc
        refine va_mabs_long hx hb hsm hown (hts _ hlk) (hts _ tb_jdk.2.2.2.2.2.2.2.2.2.2.1) (hts _ tb_jdk.2.2.2.2.2.1) (hts _ tb_jdk.2.2.2.2.2.2.2.2.2.2.2.1) hRf ?_ hR.1 hR.2 hd (kk H locs lsM hH hl)
        rw [cat_sum]; omega
      · cases h
    · next ei =>
      split at h
      · next hc =>
        cases h; simp only [Nat.sub_self, Nat.add_zero] at kk hR
        have hlk : Cond.methodLink (clsN M.1) _ Lib.MathLoose.min_long.x ∈ tbw := tb_inv hM _ (lk_mem ei)
        have hc := of_decide_eq_true hc
        refine va_mmin_long hx hb hsm hown (hts _ hlk) (hts _ tb_jdk.2.2.2.2.2.2.2.2.2.2.2.2.1) (hts _ tb_jdk.2.2.2.2.2.1) (hts _ tb_jdk.2.2.2.2.2.2.2.2.2.2.2.2.2) hRf ?_ hR.1 hR.2 hd (kk H locs lsM hH hl)
        rw [cat_sum]; omega
      · cases h
    · cases h
  · cases h
end Step2
