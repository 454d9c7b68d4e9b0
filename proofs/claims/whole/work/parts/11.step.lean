/-! a step of the small machine is a step of the machine -/
set_option maxRecDepth 100000 in
theorem tb_ref : ∀ c, c < 11 → ∀ k, k < nfT c → skF (tyT c k) = 3 → (match tyT c k with
  | .object _ => true
  | .array _ => true
  | _ => false) = true := by decide +kernel
section Step
variable {p : Program} {l : Launch} {e : Env} {R : Room} {s : State} {m : MethodId} {args : Array Value} {below : List Frame} {meth : Method} {c : Code} {H : Heap} {locs : List Loc} {cells slots : Nat} {Q : State → Prop}
variable {M : MI} {base b L : Nat} {xs : Nat → Int32} {cy : Nat → ClassId} {D : va_G}
theorem LR.at {base b : Nat} {ls : List Value} {nL : Nat} {lsM : Array Slot} (h : LR base b ls nL lsM) {i : Nat} {v : Value} (hi : ls[i]? = some v) (hv : v ≠ .null) : lsM[i]? = some (.val (adv base b v)) := h.2.2.2 i v hi hv
theorem adr_lt {base b k : Nat} (h : k < 1000) : adr base b k = base + k := by unfold adr; rw [if_neg (by omega)]
theorem inA_iff {i : Int32} {n : Nat} (h : inA i n = true) : vp_in i n := by
  intro q
  unfold inA at h
  rcases q with q | q
  · simp [q] at h
  · simp [q] at h
theorem jmp_eq {pc t : Nat} {off : Int} (h : jmp pc off = some t) : (pc : Int) + off = (t : Int) := by
  unfold jmp at h
  split at h
  · next n e => cases h; rw [e]; rfl
  · cases h
/-- a field is read -/
theorem so_get (C : Cx p s m args meth c M base b L xs cy D) {ix pc pc' : Nat} {ls ls' st st' : List Value} {σ σ' : Sg} {lsM : Array Slot} (hd : decode M.2.2.1 pc = .ok (.getfield ix, 3)) (h : getF M ix ls (pc + 3) st σ = some (pc', ls', st', σ')) (hH : HR base L xs cy D s σ H locs) (hl : LR base b ls M.2.2.2.1 lsM)
    (kk : ∀ (H' : Heap) (locs' : List Loc) (lsM' : Array Slot), HR base L xs cy D s σ' H' locs' → LR base b ls' M.2.2.2.1 lsM' → W p l e R s m args below meth c H' locs' (cells + (σ'.1 - σ.1)) (slots + (szs σ'.1 - szs σ.1)) Q (F0 m pc' lsM' (st'.map (adv base b)))) : W p l e R s m args below meth c H locs cells slots Q (F0 m pc lsM (st.map (adv base b))) := by
  obtain ⟨hx, hb, hml, hown, hts, hK, hX, hbl, hbs, hin, hM⟩ := C
  unfold getF at h
  split at h
  · next k st0 =>
    split at h
    · next cc j ef =>
      split at h
      · next hc =>
        simp only [Bool.and_eq_true, decide_eq_true_eq] at hc
        obtain ⟨hk, hsh⟩ := hc
        obtain ⟨t1, t2, t3⟩ := tb_fld hM _ (lk_mem ef)
        simp only at t1 t2 t3
        have hk96 : @LT.lt Nat _ k 96 := shO_lt hsh
        have key : ∀ v : Value, fvl base σ cc k j = v → W p l e R s m args below meth c H locs cells slots Q (F0 m (pc + 3) lsM (v :: List.map (adv base b) st0)) → W p l e R s m args below meth c H locs cells slots Q (F0 m pc lsM ((Value.ref k :: st0).map (adv base b))) := by
          intro v hv kv
          rw [List.map_cons]
          show W p l e R s m args below meth c H locs cells slots Q (F0 m pc lsM (Value.ref (adr base b k) :: List.map (adv base b) st0))
          rw [adr_lt (by omega)]
          exact va_get (D := D) (ci := cc) (v := v) (C := clsN cc) (T := tabT cc) (N := nfT cc) hx hb hts (tb_ws cc t2) hown hK hH.1 k (by rw [wld_at hk, ent_obj hsh]) (tb_cl cc t2) j t3 (hts _ t1) (fun _ h9 => h9) (by rw [entO_at t3, hv]) hd kv
        split at h
        · next ek =>
          cases h
          simp only [Nat.sub_self, Nat.add_zero] at kk
          exact key (.long (σ.2.2.2 k j)) (by simp only [fvl, ek]) (kk H locs lsM hH hl)
        · next ek =>
          split at h
          · next hf =>
            cases h
            simp only [Nat.sub_self, Nat.add_zero] at kk
            refine key (.ref (base + Rf k j)) (by simp only [fvl, ek, hf, if_true]) ?_
            have := kk H locs lsM hH hl
            rw [List.map_cons] at this
            have e1 : adv base b (.ref (Rf k j)) = .ref (base + Rf k j) := by
              show Value.ref (adr base b (Rf k j)) = _
              rw [adr_lt (tb_rf k hk96 j (by have := tb_nf cc t2; omega))]
            rwa [e1] at this
          · cases h
        · next n1 n3 =>
          cases h
          simp only [Nat.sub_self, Nat.add_zero] at kk
          refine key (.int (σ.2.2.1 k j)) ?_ (kk H locs lsM hH hl)
          unfold fvl
          split
          · next q => exact absurd q n1
          · next q => exact absurd q n3
          · rfl
      · cases h
    · cases h
  · cases h
/-- a field is written -/
theorem so_put (C : Cx p s m args meth c M base b L xs cy D) {ix pc pc' : Nat} {ls ls' st st' : List Value} {σ σ' : Sg} {lsM : Array Slot} (hd : decode M.2.2.1 pc = .ok (.putfield ix, 3)) (h : putF M ix ls (pc + 3) st σ = some (pc', ls', st', σ')) (hH : HR base L xs cy D s σ H locs) (hl : LR base b ls M.2.2.2.1 lsM)
    (kk : ∀ (H' : Heap) (locs' : List Loc) (lsM' : Array Slot), HR base L xs cy D s σ' H' locs' → LR base b ls' M.2.2.2.1 lsM' → W p l e R s m args below meth c H' locs' (cells + (σ'.1 - σ.1)) (slots + (szs σ'.1 - szs σ.1)) Q (F0 m pc' lsM' (st'.map (adv base b)))) : W p l e R s m args below meth c H locs cells slots Q (F0 m pc lsM (st.map (adv base b))) := by
  obtain ⟨hx, hb, hml, hown, hts, hK, hX, hbl, hbs, hin, hM⟩ := C
  unfold putF at h
  split at h
  · next v k st0 =>
    split at h
    · next cc j ef =>
      split at h
      · next hc =>
        simp only [Bool.and_eq_true, decide_eq_true_eq] at hc
        obtain ⟨hk, hsh⟩ := hc
        obtain ⟨t1, t2, t3⟩ := tb_fld hM _ (lk_mem ef)
        simp only at t1 t2 t3
        have hk96 : @LT.lt Nat _ k 96 := shO_lt hsh
        obtain ⟨f1, f2, f3⟩ := tb_fin cc t2 j t3
        have hty := tb_ty cc t2 j t3
        have hat : (wld base cy σ)[k]? = some (base + k, .inr (cc, entO base σ cc k)) := by rw [wld_at hk, ent_obj hsh]
        -- a write that isn't final
        have key : ∀ (v : Value) (τ : Sg), (skF (tyT cc j) == 3) = false → narrow (tyT cc j) v = v → fits (tyT cc j) v = true → τ.1 = σ.1 → (∀ q, q ≠ k → τ.2.1 q = σ.2.1 q ∧ τ.2.2.1 q = σ.2.2.1 q ∧ τ.2.2.2 q = σ.2.2.2 q) → τ.2.2.1 1000 = xs → τ.2.2.1 1001 0 = Int32.ofNat L → fvl base τ cc k j = v → (∀ i, i ≠ j → fvl base τ cc k i = fvl base σ cc k i) →
            (∀ (H' : Heap) (locs' : List Loc), HR base L xs cy D s τ H' locs' → W p l e R s m args below meth c H' locs' cells slots Q (F0 m (pc + 3) lsM (List.map (adv base b) st0))) → W p l e R s m args below meth c H locs cells slots Q (F0 m pc lsM (v :: Value.ref (base + k) :: List.map (adv base b) st0)) := by
          intro v τ n1 n2 n3 g1 g2 g3 g4 g5 g6 kv
          refine va_put (D := D) (ci := cc) (v := v) (ty := tyT cc j) (C := clsN cc) (T := tabT cc) (N := nfT cc) hx hb hts (tb_ws cc t2) (tyT cc) (tb_ty cc t2) (tb_nm cc t2) hown hK hH.1 wld_D hH.2.1 k hat (tb_cl cc t2) j t3 (hts _ t1) (fun _ h9 => h9) (by rw [f1, n1]) hty n2 n3 (by rw [entO_len]; exact t3) hd (fun H1 locs1 hP1 _ hS1 => ?_)
          refine kv H1 locs1 ⟨?_, hS1, by rw [g1]; exact hH.2.2.1, g3, g4⟩
          rw [entO_set g5 g6] at hP1
          rw [show (Sum.inr (cc, entO base τ cc k) : va_E) = ent base cy τ k from (ent_obj hsh).symm, wld_set g1 hk g2] at hP1
          exact hP1
        have n1000 : (1000 : Nat) ≠ k := by omega
        have n1001 : (1001 : Nat) ≠ k := by omega
        rw [List.map_cons, List.map_cons, show adv base b (.ref k) = .ref (base + k) from (by show Value.ref (adr base b k) = _; rw [adr_lt (by omega)])]
        split at h
        · next x ek =>
          cases h
          simp only [Nat.sub_self, Nat.add_zero] at kk
          have hi : tyT cc j = .int := by
            cases hh : tyT cc j <;> rw [hh] at ek <;> simp [skF] at ek
          refine key (.int x) (σ.1, σ.2.1, up2 σ.2.2.1 k j x, σ.2.2.2) (by rw [ek]; rfl) (by rw [hi]; rfl) (by rw [hi]; rfl) rfl (fun q hq => ⟨rfl, up2_ne hq, rfl⟩) (by show up2 σ.2.2.1 k j x 1000 = xs; rw [up2_ne n1000]; exact hH.2.2.2.1) (by show up2 σ.2.2.1 k j x 1001 0 = _; rw [up2_ne n1001]; exact hH.2.2.2.2) ?_ (fun i hi => ?_) (fun H' locs' hH' => kk H' locs' lsM hH' hl)
          · simp only [fvl, ek, up2_eq, upd, if_true]
          · simp only [fvl, up2_eq, upd, hi, if_false]
        · next x ek =>
          cases h
          simp only [Nat.sub_self, Nat.add_zero] at kk
          have hi : tyT cc j = .long := by
            cases hh : tyT cc j <;> rw [hh] at ek <;> simp [skF] at ek
          refine key (.long x) (σ.1, σ.2.1, σ.2.2.1, up2L σ.2.2.2 k j x) (by rw [ek]; rfl) (by rw [hi]; rfl) (by rw [hi]; rfl) rfl (fun q hq => ⟨rfl, rfl, up2L_ne hq⟩) hH.2.2.2.1 hH.2.2.2.2 ?_ (fun i hi => ?_) (fun H' locs' hH' => kk H' locs' lsM hH' hl)
          · simp only [fvl, ek, up2L_eq, vp_updL, if_true]
          · simp only [fvl, up2L_eq, vp_updL, hi, if_false]
        · next x ek =>
          split at h
          · next hx01 =>
            cases h
            simp only [Nat.sub_self, Nat.add_zero] at kk
            have hi : tyT cc j = .boolean := by
              cases hh : tyT cc j <;> rw [hh] at ek <;> simp [skF] at ek
            refine key (.int x) (σ.1, σ.2.1, up2 σ.2.2.1 k j x, σ.2.2.2) (by rw [ek]; rfl) (by rw [hi]; rcases hx01 with rfl | rfl <;> rfl) (by rw [hi]; rcases hx01 with rfl | rfl <;> rfl) rfl (fun q hq => ⟨rfl, up2_ne hq, rfl⟩) (by show up2 σ.2.2.1 k j x 1000 = xs; rw [up2_ne n1000]; exact hH.2.2.2.1) (by show up2 σ.2.2.1 k j x 1001 0 = _; rw [up2_ne n1001]; exact hH.2.2.2.2) ?_ (fun i hi => ?_) (fun H' locs' hH' => kk H' locs' lsM hH' hl)
            · simp only [fvl, ek, up2_eq, upd, if_true]
            · simp only [fvl, up2_eq, upd, hi, if_false]
          · cases h
        · next q ek =>
          split at h
          · next hq =>
            cases h
            simp only [Nat.sub_self, Nat.add_zero] at kk
            simp only [Bool.and_eq_true, decide_eq_true_eq, beq_iff_eq] at hq
            obtain ⟨⟨⟨hq1, hq2⟩, hq3⟩, hq4⟩ := hq
            have hq1 : @LT.lt Nat _ q σ.1 := hq1
            have h96 : σ.1 ≤ 96 := hH.2.2.1
            have e1 : adv base b (.ref q) = .ref (base + q) := by
              show Value.ref (adr base b q) = _
              rw [adr_lt (by omega)]
            rw [e1]
            have hfit : fits (tyT cc j) (.ref (base + q)) = true ∧ narrow (tyT cc j) (.ref (base + q)) = .ref (base + q) := by
              have hr := tb_ref cc t2 j t3 ek
              cases hh : tyT cc j <;> rw [hh] at hr <;> first | exact ⟨rfl, rfl⟩ | cases hr
            refine va_putF (D := D) (ci := cc) (v := .ref (base + q)) (ty := tyT cc j) (C := clsN cc) (T := tabT cc) (N := nfT cc) hx hb hts (tb_ws cc t2) (tyT cc) (tb_ty cc t2) (tb_nm cc t2) hown hK hH.1 wld_D hH.2.1 k hat (tb_cl cc t2) j t3 (hts _ t1) (fun _ h9 => h9) (by rw [f1, ek]; rfl) (hin hq3) (by rw [f2, hq4]) hty hfit.2 hfit.1 (by rw [entO_len]; exact t3) hd (fun H1 locs1 hP1 _ hS1 => ?_)
            refine kk H1 locs1 lsM ⟨?_, hS1, hH.2.2.1, hH.2.2.2.1, hH.2.2.2.2⟩ hl
            rw [entO_set (τ := (σ.1, up2F σ.2.1 k j, σ.2.2.1, σ.2.2.2)) (by simp only [fvl, ek, up2F_eq, va_up, if_true, hq2]) (fun i hi => by simp only [fvl, up2F_eq, va_up, hi, if_false])] at hP1
            rw [show (Sum.inr (cc, entO base (σ.1, up2F σ.2.1 k j, σ.2.2.1, σ.2.2.2) cc k) : va_E) = ent base cy (σ.1, up2F σ.2.1 k j, σ.2.2.1, σ.2.2.2) k from (ent_obj hsh).symm, wld_set (σ := σ) (τ := (σ.1, up2F σ.2.1 k j, σ.2.2.1, σ.2.2.2)) rfl hk (fun q hq => ⟨up2F_ne hq, rfl, rfl⟩)] at hP1
            exact hP1
          · cases h
        · cases h
      · cases h
    · cases h
  · cases h
/-- where the class of a row stands among the known ones -/
def tix (t : Nat) : Nat := match t with
  | 0 => 0
  | 1 => 1
  | 2 => 2
  | 3 => 3
  | 7 => 4
  | _ => 5
/-- a row of ints is read -/
theorem so_rdI (C : Cx p s m args meth c M base b L xs cy D) {ty pc pc' : Nat} {ins : Instr} {ls ls' st st' : List Value} {σ σ' : Sg} {lsM : Array Slot} (hd : decode M.2.2.1 pc = .ok (ins, 1)) (hins : (ty = 0 ∧ ins = .iaload) ∨ (ty = 2 ∧ ins = .baload)) (h : rdI ty ls (pc + 1) st σ = some (pc', ls', st', σ')) (hL : L ≤ 3072) (hH : HR base L xs cy D s σ H locs) (hl : LR base b ls M.2.2.2.1 lsM)
    (kk : ∀ (H' : Heap) (locs' : List Loc) (lsM' : Array Slot), HR base L xs cy D s σ' H' locs' → LR base b ls' M.2.2.2.1 lsM' → W p l e R s m args below meth c H' locs' (cells + (σ'.1 - σ.1)) (slots + (szs σ'.1 - szs σ.1)) Q (F0 m pc' lsM' (st'.map (adv base b)))) : W p l e R s m args below meth c H locs cells slots Q (F0 m pc lsM (st.map (adv base b))) := by
  obtain ⟨hx, hb, hml, hown, hts, hK, hX, hbl, hbs, hin, hM⟩ := C
  unfold rdI at h
  split at h
  · next i k st0 =>
    split at h
    · next hk =>
      split at h
      · next hc =>
        cases h
        simp only [Nat.sub_self, Nat.add_zero] at kk
        simp only [Bool.and_eq_true, decide_eq_true_eq] at hc
        obtain ⟨h0, hc⟩ := hc
        have hc := inA_iff hc
        rcases hins with ⟨-, rfl⟩ | ⟨q, -⟩
        · subst hk
          have e1 : adv base b (.ref 1000) = .ref b := rfl
          rw [List.map_cons, List.map_cons, e1]
          rw [hH.2.2.2.2, show (Int32.ofNat L).toNatClampNeg = L from nI_clamp (by omega)] at hc
          refine va_sld (A := fun q : Nat => base ≤ q) hx hb hX (by omega) (by omega) hH.2.1 hc hd ?_
          have := kk H locs lsM hH hl
          rw [hH.2.2.2.1] at this
          exact this
        · exact absurd h0 (by rw [q]; decide)
      · cases h
    · split at h
      · next hk t n ea =>
        split at h
        · next hc =>
          cases h
          simp only [Nat.sub_self, Nat.add_zero] at kk
          simp only [Bool.and_eq_true, decide_eq_true_eq, beq_iff_eq] at hc
          obtain ⟨⟨hk1, ht⟩, hc⟩ := hc
          have hc := inA_iff hc
          have hk96 : @LT.lt Nat _ k 96 := shA_lt ea
          rw [List.map_cons, List.map_cons, show adv base b (.ref k) = .ref (base + k) from (by show Value.ref (adr base b k) = _; rw [adr_lt (by omega)])]
          have hat : (wld base cy σ)[k]? = some (base + k, .inl (cy t, n, .inl (σ.2.2.1 k))) := by
            rw [wld_at hk1, ent_arr ea]
            unfold entA
            rw [if_neg (by omega), if_neg (by omega)]
          rcases hins with ⟨q, rfl⟩ | ⟨q, rfl⟩
          · exact va_iald hx hb hK hH.1 k 0 hat (by rw [ht, q]; rfl) hc hd (kk H locs lsM hH hl)
          · exact va_zald hx hb hK hH.1 k 2 hat (by rw [ht, q]; rfl) hc hd (kk H locs lsM hH hl)
        · cases h
      · cases h
  · cases h
theorem so_rdL (C : Cx p s m args meth c M base b L xs cy D) {pc pc' : Nat} {ls ls' st st' : List Value} {σ σ' : Sg} {lsM : Array Slot} (hd : decode M.2.2.1 pc = .ok (.laload, 1)) (h : rdL ls (pc + 1) st σ = some (pc', ls', st', σ')) (hH : HR base L xs cy D s σ H locs) (hl : LR base b ls M.2.2.2.1 lsM)
    (kk : ∀ (H' : Heap) (locs' : List Loc) (lsM' : Array Slot), HR base L xs cy D s σ' H' locs' → LR base b ls' M.2.2.2.1 lsM' → W p l e R s m args below meth c H' locs' (cells + (σ'.1 - σ.1)) (slots + (szs σ'.1 - szs σ.1)) Q (F0 m pc' lsM' (st'.map (adv base b)))) : W p l e R s m args below meth c H locs cells slots Q (F0 m pc lsM (st.map (adv base b))) := by
  obtain ⟨hx, hb, hml, hown, hts, hK, hX, hbl, hbs, hin, hM⟩ := C
  unfold rdL at h
  split at h
  · next i k st0 =>
    split at h
    · next t n ea =>
      split at h
      · next hc =>
        cases h
        simp only [Nat.sub_self, Nat.add_zero] at kk
        simp only [Bool.and_eq_true, decide_eq_true_eq, beq_iff_eq] at hc
        obtain ⟨⟨hk1, ht⟩, hc⟩ := hc
        have hc := inA_iff hc
        have hk96 : @LT.lt Nat _ k 96 := shA_lt ea
        rw [List.map_cons, List.map_cons, show adv base b (.ref k) = .ref (base + k) from (by show Value.ref (adr base b k) = _; rw [adr_lt (by omega)])]
        have hat : (wld base cy σ)[k]? = some (base + k, .inl (cy t, n, .inr (.inl (σ.2.2.2 k)))) := by
          rw [wld_at hk1, ent_arr ea]
          unfold entA
          rw [if_pos ht]
        exact va_lald hx hb hK hH.1 k 1 hat (by rw [ht]; rfl) hc hd (kk H locs lsM hH hl)
      · cases h
    · cases h
  · cases h
theorem so_rdA (C : Cx p s m args meth c M base b L xs cy D) {pc pc' : Nat} {ls ls' st st' : List Value} {σ σ' : Sg} {lsM : Array Slot} (hd : decode M.2.2.1 pc = .ok (.aaload, 1)) (h : rdA ls (pc + 1) st σ = some (pc', ls', st', σ')) (hH : HR base L xs cy D s σ H locs) (hl : LR base b ls M.2.2.2.1 lsM)
    (kk : ∀ (H' : Heap) (locs' : List Loc) (lsM' : Array Slot), HR base L xs cy D s σ' H' locs' → LR base b ls' M.2.2.2.1 lsM' → W p l e R s m args below meth c H' locs' (cells + (σ'.1 - σ.1)) (slots + (szs σ'.1 - szs σ.1)) Q (F0 m pc' lsM' (st'.map (adv base b)))) : W p l e R s m args below meth c H locs cells slots Q (F0 m pc lsM (st.map (adv base b))) := by
  obtain ⟨hx, hb, hml, hown, hts, hK, hX, hbl, hbs, hin, hM⟩ := C
  unfold rdA at h
  split at h
  · next i k st0 =>
    split at h
    · next t n ea =>
      split at h
      · next hc =>
        cases h
        simp only [Nat.sub_self, Nat.add_zero] at kk
        simp only [Bool.and_eq_true, decide_eq_true_eq, beq_iff_eq] at hc
        obtain ⟨⟨⟨hk1, ht⟩, hc⟩, hf⟩ := hc
        have hc := inA_iff hc
        have hk96 : @LT.lt Nat _ k 96 := shA_lt ea
        obtain ⟨a1, a2, a3⟩ := tb_ar k hk96 _ ea
        simp only at a1 a2 a3
        have hi16 : i.toNatClampNeg < 16 := by
          have h1 : i.toNatClampNeg < n := Nat.not_le.mp fun q => hc (Or.inr q)
          have h2 := a3 ht
          omega
        rw [List.map_cons, List.map_cons, show adv base b (.ref k) = .ref (base + k) from (by show Value.ref (adr base b k) = _; rw [adr_lt (by omega)])]
        have hat : (wld base cy σ)[k]? = some (base + k, .inl (cy t, n, .inr (.inr (.inr (.inr (fun j => if σ.2.1 k j then some (base + Rf k j) else none)))))) := by
          rw [wld_at hk1, ent_arr ea]
          unfold entA
          rw [if_neg (by omega), if_pos ht]
        have key : W p l e R s m args below meth c H locs cells slots Q (F0 m (pc + 1) lsM (va_rf ((fun j => if σ.2.1 k j then some (base + Rf k j) else none) i.toNatClampNeg) :: List.map (adv base b) st0)) := by
          have e2 : va_rf ((fun j => if σ.2.1 k j then some (base + Rf k j) else none) i.toNatClampNeg) = adv base b (.ref (Rf k i.toNatClampNeg)) := by
            simp only [hf, if_true]
            show Value.ref (base + Rf k i.toNatClampNeg) = Value.ref (adr base b (Rf k i.toNatClampNeg))
            rw [adr_lt (tb_rf k hk96 _ (by omega))]
          rw [e2]
          exact kk H locs lsM hH hl
        rcases a1 with q | q | q | q | q | q
        · omega
        · omega
        · omega
        · subst q; exact va_aldq (C := RX0) hx hb hK hH.1 k 3 hat rfl hc hd key
        · subst q; exact va_aldq (C := RX4) hx hb hK hH.1 k 4 hat rfl hc hd key
        · subst q; exact va_aldq (C := RX7) hx hb hK hH.1 k 5 hat rfl hc hd key
      · cases h
    · cases h
  · cases h
/-- a row of ints is written -/
theorem so_wrI (C : Cx p s m args meth c M base b L xs cy D) {ty pc pc' : Nat} {f : Int32 → Int32} {ins : Instr} {ls ls' st st' : List Value} {σ σ' : Sg} {lsM : Array Slot} (hd : decode M.2.2.1 pc = .ok (ins, 1)) (hins : (ty = 0 ∧ ins = .iastore ∧ f = fun x => x) ∨ (ty = 2 ∧ ins = .bastore ∧ f = fun x => vp_nar .boolean x)) (h : wrI ty f ls (pc + 1) st σ = some (pc', ls', st', σ')) (hH : HR base L xs cy D s σ H locs) (hl : LR base b ls M.2.2.2.1 lsM)
    (kk : ∀ (H' : Heap) (locs' : List Loc) (lsM' : Array Slot), HR base L xs cy D s σ' H' locs' → LR base b ls' M.2.2.2.1 lsM' → W p l e R s m args below meth c H' locs' (cells + (σ'.1 - σ.1)) (slots + (szs σ'.1 - szs σ.1)) Q (F0 m pc' lsM' (st'.map (adv base b)))) : W p l e R s m args below meth c H locs cells slots Q (F0 m pc lsM (st.map (adv base b))) := by
  obtain ⟨hx, hb, hml, hown, hts, hK, hX, hbl, hbs, hin, hM⟩ := C
  unfold wrI at h
  split at h
  · next x i k rst =>
    split at h
    · next t n ea =>
      split at h
      · next hc =>
        cases h
        simp only [Nat.sub_self, Nat.add_zero] at kk
        simp only [Bool.and_eq_true, decide_eq_true_eq, beq_iff_eq] at hc
        obtain ⟨⟨hk1, ht⟩, hc⟩ := hc
        have hc := inA_iff hc
        have hk96 : @LT.lt Nat _ k 96 := shA_lt ea
        rw [List.map_cons, List.map_cons, List.map_cons, show adv base b (.ref k) = .ref (base + k) from (by show Value.ref (adr base b k) = _; rw [adr_lt (by omega)])]
        have hat : (wld base cy σ)[k]? = some (base + k, .inl (cy t, n, .inl (σ.2.2.1 k))) := by
          rw [wld_at hk1, ent_arr ea]
          unfold entA
          rw [if_neg (by omega), if_neg (by omega)]
        have fin : ∀ (H1 : Heap) (locs1 : List Loc), va_P D vwCl ((wld base cy σ).set k (base + k, .inl (cy t, n, .inl (upd (σ.2.2.1 k) i.toNatClampNeg (f x))))) H1 → va_S (fun q : Nat => base ≤ q) s.heap H1 locs1 → W p l e R s m args below meth c H1 locs1 cells slots Q (F0 m (pc + 1) lsM (List.map (adv base b) st')) := by
          intro H1 locs1 hP1 hS1
          refine kk H1 locs1 lsM ⟨?_, hS1, hH.2.2.1, ?_, ?_⟩ hl
          · rw [← wld_set (σ := σ) (τ := (σ.1, σ.2.1, up2 σ.2.2.1 k i.toNatClampNeg (f x), σ.2.2.2)) (k := k) rfl hk1 (fun q hq => ⟨rfl, up2_ne hq, rfl⟩), ent_arr ea]
            unfold entA
            rw [if_neg (by omega), if_neg (by omega)]
            show va_P D vwCl ((wld base cy σ).set k (base + k, .inl (cy t, n, .inl (up2 σ.2.2.1 k i.toNatClampNeg (f x) k)))) H1
            rw [up2_eq]
            exact hP1
          · show up2 σ.2.2.1 k i.toNatClampNeg (f x) 1000 = xs
            rw [up2_ne (by omega)]; exact hH.2.2.2.1
          · show up2 σ.2.2.1 k i.toNatClampNeg (f x) 1001 0 = _
            rw [up2_ne (by omega)]; exact hH.2.2.2.2
        rcases hins with ⟨q, rfl, rfl⟩ | ⟨q, rfl, rfl⟩
        · exact va_iast hx hb hK hH.1 wld_D hH.2.1 k 0 hat (by rw [ht, q]; rfl) hc hd (fun H1 locs1 hP1 _ hS1 => fin H1 locs1 hP1 hS1)
        · exact va_zast hx hb hK hH.1 wld_D hH.2.1 k 2 hat (by rw [ht, q]; rfl) hc hd (fun H1 locs1 hP1 _ hS1 => fin H1 locs1 hP1 hS1)
      · cases h
    · cases h
  · cases h
theorem so_wrL (C : Cx p s m args meth c M base b L xs cy D) {pc pc' : Nat} {ls ls' st st' : List Value} {σ σ' : Sg} {lsM : Array Slot} (hd : decode M.2.2.1 pc = .ok (.lastore, 1)) (h : wrL ls (pc + 1) st σ = some (pc', ls', st', σ')) (hH : HR base L xs cy D s σ H locs) (hl : LR base b ls M.2.2.2.1 lsM)
    (kk : ∀ (H' : Heap) (locs' : List Loc) (lsM' : Array Slot), HR base L xs cy D s σ' H' locs' → LR base b ls' M.2.2.2.1 lsM' → W p l e R s m args below meth c H' locs' (cells + (σ'.1 - σ.1)) (slots + (szs σ'.1 - szs σ.1)) Q (F0 m pc' lsM' (st'.map (adv base b)))) : W p l e R s m args below meth c H locs cells slots Q (F0 m pc lsM (st.map (adv base b))) := by
  obtain ⟨hx, hb, hml, hown, hts, hK, hX, hbl, hbs, hin, hM⟩ := C
  unfold wrL at h
  split at h
  · next x i k rst =>
    split at h
    · next t n ea =>
      split at h
      · next hc =>
        cases h
        simp only [Nat.sub_self, Nat.add_zero] at kk
        simp only [Bool.and_eq_true, decide_eq_true_eq, beq_iff_eq] at hc
        obtain ⟨⟨hk1, ht⟩, hc⟩ := hc
        have hc := inA_iff hc
        have hk96 : @LT.lt Nat _ k 96 := shA_lt ea
        rw [List.map_cons, List.map_cons, List.map_cons, show adv base b (.ref k) = .ref (base + k) from (by show Value.ref (adr base b k) = _; rw [adr_lt (by omega)])]
        have hat : (wld base cy σ)[k]? = some (base + k, .inl (cy t, n, .inr (.inl (σ.2.2.2 k)))) := by
          rw [wld_at hk1, ent_arr ea]
          unfold entA
          rw [if_pos ht]
        refine va_last hx hb hK hH.1 wld_D hH.2.1 k 1 hat (by rw [ht]; rfl) hc hd (fun H1 locs1 hP1 _ hS1 => ?_)
        refine kk H1 locs1 lsM ⟨?_, hS1, hH.2.2.1, hH.2.2.2.1, hH.2.2.2.2⟩ hl
        rw [← wld_set (σ := σ) (τ := (σ.1, σ.2.1, σ.2.2.1, up2L σ.2.2.2 k i.toNatClampNeg x)) (k := k) rfl hk1 (fun q hq => ⟨rfl, rfl, up2L_ne hq⟩), ent_arr ea]
        unfold entA
        rw [if_pos ht]
        show va_P D vwCl ((wld base cy σ).set k (base + k, .inl (cy t, n, .inr (.inl (up2L σ.2.2.2 k i.toNatClampNeg x k))))) H1
        rw [up2L_eq]
        exact hP1
      · cases h
    · cases h
  · cases h
end Step
