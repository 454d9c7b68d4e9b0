/-! what the small machine does, the machine does -/
def rmD (d mc ms : Nat) : Room := { frames := d + 1, cells := mc, slots := ms, locals := 40 * (d + 1) }
/-- a method's start: its arguments, the heap as the small machine has it, the tables -/
def Pcf (base b L : Nat) (xs : Nat → Int32) (cy : Nat → ClassId) (D : va_G) (as : List Value) (σ : Sg) : Array Value → State → Prop := fun a U =>
  a = (List.map (adv base b) as).toArray ∧ U.heap.size = base + σ.1 ∧ va_P D vwCl (wld base cy σ) U.heap ∧ va_K D vwCl (tysOf cy) U ∧ (∀ w ∈ tbw, w.before #[] U = true) ∧ va_X b L xs U U.heap ∧ b < base ∧ σ.1 ≤ NN ∧ σ.2.2.1 1000 = xs ∧ σ.2.2.1 1001 0 = Int32.ofNat L
/-- a method's end -/
def Qcf (base b L : Nat) (xs : Nat → Int32) (cy : Nat → ClassId) (D : va_G) (Y : MI) (v : Value) (σ : Sg) : Array Value → State → Outcome → State → Prop := fun _ st o t =>
  o = .returned (if Y.2.2.2.2.isSome then some (adv base b v) else none) ∧ (va_P D vwCl (wld base cy σ) t.heap ∧ σ.1 ≤ NN ∧ σ.2.2.1 1000 = xs ∧ σ.2.2.1 1001 0 = Int32.ofNat L) ∧ va_F (fun q : Nat => base ≤ q) st t
def Ct (l : Launch) (base b L : Nat) (xs : Nat → Int32) (cy : Nat → ClassId) (D : va_G) (d : Nat) (Y : MI) (as : List Value) (σ : Sg) (v : Value) (τ : Sg) : Prop :=
  Met l Y.2.1 [Cond.code Y.2.1 Y.2.2.1 Y.2.2.2.1 Y.2.2.2.2] (rmD d (τ.1 - σ.1) (szs τ.1 - szs σ.1)) (Pcf base b L xs cy D as σ) (Qcf base b L xs cy D Y v τ) (τ.1 - σ.1) (szs τ.1 - szs σ.1) (fun q : Nat => base ≤ q)
theorem szs_le {a b : Nat} (h : a ≤ b) : szs a ≤ szs b := by
  induction h with
  | refl => exact Nat.le_refl _
  | step _ ih => exact Nat.le_trans ih (Nat.le_add_right _ _)
section Snd
variable {p : Program} {l : Launch} {e : Env} {R : Room} {s : State} {m : MethodId} {args : Array Value} {below : List Frame} {meth : Method} {c : Code} {H : Heap} {locs : List Loc} {cells slots : Nat} {Q : State → Prop}
variable {M : MI} {base b L : Nat} {xs : Nat → Int32} {cy : Nat → ClassId} {D : va_G}
theorem Pcf_blind {as : List Value} {σ : Sg} : FrameBlind (Pcf base b L xs cy D as σ) := by
  intro a U g mk ⟨h1, h2, h3, h4, h5, h6, h7⟩
  exact ⟨h1, h2, h3, va_K.moved (u := U) (U := U.calling g mk a) (Vm.Alike.refl U.vm) h4, tw_move (s := U) (U := U.calling g mk a) (State.WarmedH.refl U) h5, va_X.moved (u := U) (U := U.calling g mk a) (Vm.Alike.refl U.vm) h6, h7⟩
/-- the start of a callee, at the caller's heap -/
theorem Pcf_at (C : Cx p s m args meth c M base b L xs cy D) {as : List Value} {σ : Sg} (hz : H.size = base + σ.1) (hH : HR base L xs cy D s σ H locs) (U : State) (hU : U.heap = H) (hW : s.WarmedH U.vm) : Pcf base b L xs cy D as σ (List.map (adv base b) as).toArray U := by
  obtain ⟨hx, hb, hml, hown, hts, hK, hX, hbl, hbs, hin, hM⟩ := C
  refine ⟨rfl, by rw [hU]; exact hz, by rw [hU]; exact hH.1, va_K.moved hW.alike hK, tw_move hW hts, ?_, hbl, hH.2.2⟩
  have h1 := va_X.moved hW.alike hX
  refine va_X.kept h1 ?_
  rw [hU]
  exact hH.2.1.2.1 b (by omega) (by omega)
/-- behind a call -/
theorem so_back {mc ms : Nat} {pc : Nat} {lsM : Array Slot} {stM rest : List Value} {Y : MI} {v : Value} {τ : Sg} {a : Array Value} (hr : va_Run p l e R s m args below meth c H locs cells slots mc ms (F0 m pc lsM stM) rest (Qcf base b L xs cy D Y v τ a) (fun q : Nat => base ≤ q)) (hS : va_S (fun q : Nat => base ≤ q) s.heap H locs)
    (kk : ∀ (H' : Heap) (locs' : List Loc), HR base L xs cy D s τ H' locs' → W p l e R s m args below meth c H' locs' (cells + mc) (slots + ms) Q (F0 m (pc + 3) lsM ((if Y.2.2.2.2.isSome then some (adv base b v) else none).toList ++ rest))) : W p l e R s m args below meth c H locs cells slots Q (F0 m pc lsM stM) := by
  intro T hT X
  obtain ⟨v0, st₀, t, T', L0, h0, X', hL0, e1, e2, ⟨hv, ⟨g1, g2⟩, hz, hk⟩, st⟩ := hr T hT X
  rw [h0] at hz hk
  cases hv
  have hS' : va_S (fun q : Nat => base ≤ q) s.heap T'.heap (locs ++ L0) := by
    refine ⟨Nat.le_trans hS.1 (by rw [e1]; exact hz), fun q h1 h2 => ?_, fun q hq => ?_⟩
    · rw [e1, hk q (Nat.lt_of_lt_of_le h1 hS.1) h2]; exact hS.2.1 q h1 h2
    · rcases List.mem_append.mp hq with h | h
      · exact hS.2.2 q h
      · exact hL0 q h
  obtain ⟨t2, a1, b1⟩ := kk T'.heap (locs ++ L0) ⟨by rw [e1]; exact g1, hS', g2⟩ T' rfl X'
  exact ⟨t2, st t2 a1, b1⟩
/-- a call -/
theorem so_call (C : Cx p s m args meth c M base b L xs cy D) {ins : Instr} {len pc d : Nat} {st as rest : List Value} {lsM : Array Slot} {Y : MI} {v : Value} {σ τ : Sg} {ls : List Value} (hd : decode M.2.2.1 pc = .ok (ins, len)) (hc : cal M ins len st σ = some (Y, as, rest)) (hY : Ct l base b L xs cy D d Y as σ v τ) (hsz : s.heap.size + cells = base + σ.1) (hR : cells + (τ.1 - σ.1) ≤ R.cells ∧ slots + (szs τ.1 - szs σ.1) ≤ R.slots) (hRf : d + 2 ≤ R.frames) (hRl : 40 * (d + 2) ≤ R.locals) (hH : HR base L xs cy D s σ H locs) (hl : LR base b ls M.2.2.2.1 lsM)
    (kk : ∀ (H' : Heap) (locs' : List Loc), HR base L xs cy D s τ H' locs' → W p l e R s m args below meth c H' locs' (cells + (τ.1 - σ.1)) (slots + (szs τ.1 - szs σ.1)) Q (F0 m (pc + 3) lsM (List.map (adv base b) (if Y.2.2.2.2.isSome then v :: rest else rest)))) : W p l e R s m args below meth c H locs cells slots Q (F0 m pc lsM (List.map (adv base b) st)) := by
  have C0 := C
  obtain ⟨hx, hb, hml, hown, hts, hK, hX, hbl, hbs, hin, hM⟩ := C
  refine W_size (fun hz => ?_)
  have hbH : base ≤ H.size := Nat.le_trans hbs hH.2.1.1
  have hsize : H.size = base + σ.1 := by
    have := wld_size hH.1 hbH
    omega
  have kk2 : ∀ (H' : Heap) (locs' : List Loc), HR base L xs cy D s τ H' locs' → W p l e R s m args below meth c H' locs' (cells + (τ.1 - σ.1)) (slots + (szs τ.1 - szs σ.1)) Q (F0 m (pc + 3) lsM ((if Y.2.2.2.2.isSome then some (adv base b v) else none).toList ++ List.map (adv base b) rest)) := by
    intro H' locs' hH'
    have k1 := kk H' locs' hH'
    by_cases q : Y.2.2.2.2.isSome = true
    · rw [if_pos q] at k1 ⊢; exact k1
    · rw [if_neg q] at k1 ⊢; exact k1
  have S : CallFix p m c M.2.2.1 M.2.2.2.1 s args tbw (clsN M.1) := ⟨hx, hb, hml, hown, hts⟩
  have hpre : PreS s H (Pcf base b L xs cy D as σ) (List.map (adv base b) as) := ⟨Pcf_blind, fun U hU hW => Pcf_at C0 hsize hH U hU hW⟩
  have callB : ∀ (ix : Nat), okM Y → Cond.methodLink (clsN M.1) ix Y.2.1 ∈ tbw → CallB R s args (clsN M.1) ix Y.2.1 Y.2.2.1 Y.2.2.2.1 Y.2.2.2.2 [Cond.code Y.2.1 Y.2.2.1 Y.2.2.2.1 Y.2.2.2.2] (rmD d (τ.1 - σ.1) (szs τ.1 - szs σ.1)) (τ.1 - σ.1) (szs τ.1 - szs σ.1) (nAr Y) := by
    intro ix ok hlk
    obtain ⟨o1, o2, o3, o4, o5, o6, o7⟩ := ok
    refine callB_of (nAr Y) hts (fun w hw => ?_) rfl rfl rfl (hts _ o4) (hts _ hlk) o7 ⟨by show d + 1 + 1 ≤ R.frames; omega, by show 8 + (Y.2.2.2.1 + 11) + 40 * (d + 1) ≤ R.locals; omega⟩
    rw [List.mem_singleton.mp hw]
    exact ⟨o3, good_of_word rfl⟩
  unfold cal at hc
  split at hc
  · next ix =>
    split at hc
    · next Y0 ei =>
      split at hc
      · next k rest0 er =>
        split at hc
        · next hcc =>
          cases hc
          simp only [Bool.and_eq_true, decide_eq_true_eq] at hcc
          obtain ⟨⟨hk, hsh⟩, hcat⟩ := hcc
          obtain ⟨ok, l1, l2, l3, l4⟩ : okM Y ∧ Cond.methodLink (clsN M.1) ix Y.2.1 ∈ tbw ∧ Cond.instanceMethod Y.2.1 ∈ tbw ∧ Cond.selects (clsN Y.1) Y.2.1 Y.2.1 ∈ tbw ∧ Y.1 < 11 := tb_inv hM _ (lk_mem ei)
          have hk96 : @LT.lt Nat _ k 96 := shO_lt hsh
          have eadr : adv base b (.ref k) = .ref (base + k) := by
            show Value.ref (adr base b k) = _
            rw [adr_lt (by omega)]
          have hlen : (List.take (nAr Y) st).length = nAr Y := by
            have h1 : nAr Y < st.length := by
              rcases Nat.lt_or_ge (nAr Y) st.length with g | g
              · exact g
              · rw [List.drop_eq_nil_of_le g] at er; cases er
            rw [List.length_take]; omega
          have est : st = List.take (nAr Y) st ++ .ref k :: rest := by rw [← er, List.take_append_drop]
          have hrecv := va_recv hK hH.1 (tb_cl Y.1 l4) (q0 := k) (by rw [wld_at hk, ent_obj hsh])
          refine so_back (a := (List.map (adv base b) (.ref k :: (List.take (nAr Y) st).reverse)).toArray) (rest := List.map (adv base b) rest) ?_ hH.2.1 kk2
          rw [List.map_cons, eadr]
          rw [List.map_cons, eadr] at hpre
          exact va_runV (C := clsN Y.1) (b := base + k) (As := List.map (adv base b) (List.take (nAr Y) st).reverse) S hY ⟨callB ix ok l1, hts _ l2, hts _ l3⟩ ⟨hpre.1, hrecv, hpre.2⟩ rfl (by rw [List.length_map, List.length_reverse]; exact hlen) hl.1 (by
              show List.map (adv base b) st = _
              rw [← List.map_reverse, List.reverse_reverse, ← eadr, ← List.map_cons, ← List.map_append, ← est]) (lv_room (by rw [cat_sum]; exact hcat)) hd hR
        · cases hc
      · cases hc
    · cases hc
  · next ix =>
    split at hc
    · next Y0 ei =>
      split at hc
      · next hcc =>
        cases hc
        simp only [Bool.and_eq_true, decide_eq_true_eq] at hcc
        obtain ⟨hlen0, hcat⟩ := hcc
        obtain ⟨ok, l1, l2⟩ : okM Y ∧ Cond.methodLink (clsN M.1) ix Y.2.1 ∈ tbw ∧ Cond.static Y.2.1 ∈ tbw := tb_inv hM _ (lk_mem ei)
        refine so_back (a := (List.map (adv base b) (List.take (nAr Y) st).reverse).toArray) (rest := List.map (adv base b) (List.drop (nAr Y) st)) ?_ hH.2.1 kk2
        exact va_runS (As := List.map (adv base b) (List.take (nAr Y) st).reverse) S hY ⟨callB ix ok l1, hts _ l2⟩ hpre rfl (by rw [List.length_map, List.length_reverse, List.length_take]; omega) hl.1 (by
              show List.map (adv base b) st = _
              rw [← List.map_reverse, List.reverse_reverse, ← List.map_append, List.take_append_drop]) (lv_room (by rw [cat_sum]; exact hcat)) hd hR
      · cases hc
    · cases hc
  · next ix =>
    split at hc
    · next Y0 k rest0 ei =>
      split at hc
      · next hcc =>
        cases hc
        have hcat := of_decide_eq_true hcc
        obtain ⟨ok, l1, l2, l3, l4, l5⟩ : okM Y ∧ Cond.methodLink (clsN M.1) ix Y.2.1 ∈ tbw ∧ Cond.instanceMethod Y.2.1 ∈ tbw ∧ Y.2.1.name = "<init>" ∧ Y.2.2.2.2 = none ∧ nAr Y = 0 := tb_inv hM _ (lk_mem ei)
        refine so_back (a := (List.map (adv base b) [.ref k]).toArray) (rest := List.map (adv base b) rest) ?_ hH.2.1 kk2
        have cb := callB ix ok l1
        unfold Ct at hY
        rw [l4] at cb hY
        rw [l5] at cb
        exact va_runI (b := adr base b k) (As := []) S hY ⟨cb, l3, hts _ l2⟩ hpre rfl rfl hl.1 rfl (lv_room (by rw [cat_sum]; exact hcat)) hd hR
      · cases hc
    · next Y0 k rest0 ei =>
      split at hc
      · next hcc =>
        cases hc
        have hcat := of_decide_eq_true hcc
        obtain ⟨ok, l1, l2, l3, l4, l5⟩ : okM Y ∧ Cond.methodLinkNest (clsN M.1) ix Y.2.1 "RateTree" ∈ tbw ∧ Cond.instanceMethod Y.2.1 ∈ tbw ∧ Y.2.1.name = "<init>" ∧ Y.2.2.2.2 = none ∧ nAr Y = 0 := tb_inv hM _ (lk_mem ei)
        refine so_back (a := (List.map (adv base b) [.ref k]).toArray) (rest := List.map (adv base b) rest) ?_ hH.2.1 kk2
        obtain ⟨o1, o2, o3, o4, o5, o6, o7⟩ := ok
        unfold Ct at hY
        rw [l4] at hY o3
        rw [l5] at o7
        have cn := va_cnB (own := clsN M.1) (host := "RateTree") (index := ix) (bytes := Y.2.2.1) (maxL := Y.2.2.2.1) (ret := none) (R := R) (rm := rmD d (τ.1 - σ.1) (szs τ.1 - szs σ.1)) (mc := τ.1 - σ.1) (ms := szs τ.1 - szs σ.1) (y := Y.2.1) (ws := [Cond.code Y.2.1 Y.2.2.1 Y.2.2.2.1 none]) (ws' := []) 0 hts (fun w hw => by rw [List.mem_singleton.mp hw]; exact ⟨o3, good_of_word rfl⟩) rfl rfl rfl (va_Nw.of rfl (hts _ l1)) (hts _ o4) o7 ⟨by show d + 1 + 1 ≤ R.frames; omega, by show 8 + (Y.2.2.2.1 + 11) + 40 * (d + 1) ≤ R.locals; omega⟩
        exact va_runIN (b := adr base b k) (As := []) S hY ⟨cn, l3, hts _ l2⟩ hpre rfl rfl hl.1 rfl (lv_room (by rw [cat_sum]; exact hcat)) hd hR
      · cases hc
    · cases hc
  · cases hc
end Snd
/-- the heap only grows -/
theorem stp_grow {M : MI} {ins : Instr} {len pc pc' : Nat} {ls ls' st st' : List Value} {σ σ' : Sg} (h : stp M ins len pc ls st σ = some (pc', ls', st', σ')) : σ.1 ≤ σ'.1 := by
  have ld : ∀ {a : Option Value} {f : Value → Option Nx}, (∀ v, a = some v → f v = some (pc', ls', st', σ') → σ.1 ≤ σ'.1) → True := fun _ => trivial
  unfold stp at h
  split at h
  all_goals try (simp only [ldI, ldL, ldA, stI, stL, stA, bI, bL, bD, bS, uI, rdI, rdL, rdA, wrI, wrL, wrA, getF, putF, newA, born] at h)
  all_goals repeat' split at h
  all_goals first
    | (cases h; done)
    | (cases h; exact Nat.le_refl _)
    | (cases h; exact Nat.le_succ _)
theorem ev_grow : ∀ (f d : Nat) (M : MI) (pc : Nat) (ls st : List Value) (σ : Sg) (v : Value) (σ' : Sg), ev f d M pc ls st σ = some (v, σ') → σ.1 ≤ σ'.1 := by
  intro f
  induction f with
  | zero => intro d M pc ls st σ v σ' h; simp [ev] at h
  | succ f ih =>
    intro d M pc ls st σ v σ' h
    rw [ev] at h
    split at h
    · cases h
    · split at h
      · cases h; exact Nat.le_refl _
      · split at h
        · split at h
          · cases h
          · split at h
            · split at h
              · cases h
              · next e1 => exact Nat.le_trans (ih _ _ _ _ _ _ _ _ e1) (ih _ _ _ _ _ _ _ _ h)
            · cases h
        · split at h
          · cases h
          · next e1 => exact Nat.le_trans (stp_grow e1) (ih _ _ _ _ _ _ _ _ h)
