/-! the run of a frame -/
/-- what a frame's walk gives: from the frame at pc to its return -/
def Fs (l : Launch) (base b L : Nat) (xs : Nat → Int32) (cy : Nat → ClassId) (D : va_G) (d : Nat) (M : MI) (pc : Nat) (ls st : List Value) (σ : Sg) (v : Value) (τ : Sg) : Prop :=
  ∀ (p : Program) (e : Env) (R : Room) (s : State) (m : MethodId) (args : Array Value) (below : List Frame) (meth : Method) (c : Code) (H : Heap) (locs : List Loc) (cells slots : Nat) (Q : State → Prop) (lsM : Array Slot),
    Cx p s m args meth c M base b L xs cy D → s.heap.size + cells = base + σ.1 → cells + (τ.1 - σ.1) ≤ R.cells → slots + (szs τ.1 - szs σ.1) ≤ R.slots → d + 1 ≤ R.frames → 40 * (d + 1) ≤ R.locals → HR base L xs cy D s σ H locs → LR base b ls M.2.2.2.1 lsM →
    (∀ (H' : Heap) (locs' : List Loc) (pc' len : Nat) (ins : Instr) (st' : List Value) (lsM' : Array Slot), HR base L xs cy D s τ H' locs' → decode M.2.2.1 pc' = .ok (ins, len) → rtn M ins len st' = some v → W p l e R s m args below meth c H' locs' (cells + (τ.1 - σ.1)) (slots + (szs τ.1 - szs σ.1)) Q (F0 m pc' lsM' (List.map (adv base b) st'))) →
    W p l e R s m args below meth c H locs cells slots Q (F0 m pc lsM (List.map (adv base b) st))
section Run
variable {l : Launch} {base b L : Nat} {xs : Nat → Int32} {cy : Nat → ClassId} {D : va_G}
/-- a method's contract out of its frame's walk -/
theorem Ct_of {d : Nat} {Y : MI} {as : List Value} {σ τ : Sg} {v : Value} (ok : okM Y) (hlen : (epd as).length ≤ Y.2.2.2.1) (h : Fs l base b L xs cy D d Y 0 (ety Y as) [] σ v τ) : Ct l base b L xs cy D d Y as σ v τ := by
  obtain ⟨o1, o2, o3, o4, o5, o6, o7⟩ := ok
  refine Met.ofW (cc := Y.2.2.1) (maxL := Y.2.2.2.1) (ret := Y.2.2.2.2) o6 rfl ?_
  intro p e s m args below meth c s₁ B hml hv
  obtain ⟨rfl, hz, hP, hK, htw, hX, hbb, hnn, h10, h11⟩ := hv
  have hx := B.exec
  have hb := B.bytes
  have hr := B.returns
  have hown : s.vm.findClass Y.2.1.cls = some m.cls := findClass_of_methodNamed B.named
  have hlocks := B.notSynchronized
  rw [o5] at hown
  have hin : Y.2.1.name = "<init>" → meth.name = "<init>" := fun q => (name_of_methodNamed B.named B.method).1.trans q
  rw [lg_entry_eq]
  have hl := LR.entry (base := base) (b := b) hlen
  have C0 : Cx p s m (List.map (adv base b) as).toArray meth c Y base b L xs cy D := ⟨hx, hb, hml, hown, tw_move (State.WarmedH.refl s) htw, hK, hX, hbb, by omega, hin, o1⟩
  refine h p e _ s m _ below meth c s.heap [] 0 0 _ _ C0 (by omega) (by show 0 + _ ≤ (rmD d (τ.1 - σ.1) (szs τ.1 - szs σ.1)).cells; show 0 + (τ.1 - σ.1) ≤ τ.1 - σ.1; omega) (by show 0 + (szs τ.1 - szs σ.1) ≤ szs τ.1 - szs σ.1; omega) (Nat.le_refl (d + 1)) (Nat.le_refl (40 * (d + 1))) ⟨hP, va_S.rf, hnn, h10, h11⟩ hl ?_
  intro H' locs' pc' len ins st' lsM' hH' hdec hrt
  rw [Nat.zero_add, Nat.zero_add]
  have hend : ∀ t : State, t.heap = H' → s.WarmedH t.vm → Qcf base b L xs cy D Y v τ (List.map (adv base b) as).toArray s (.returned (if Y.2.2.2.2.isSome then some (adv base b v) else none)) t := by
    intro t ht hW
    exact ⟨rfl, ⟨by rw [ht]; exact hH'.1, hH'.2.2⟩, hH'.2.1.F ht⟩
  unfold rtn at hrt
  split at hrt
  · split at hrt
    · next er =>
      cases hrt
      rw [er] at hr
      refine W.iret (Qc := Qcf base b L xs cy D Y (.int _) τ) hx hb hr (fun t ht hW => ?_) hH'.2.1.2.2 hdec
      have h1 := hend t ht hW
      rw [er] at h1
      exact h1
    · next er =>
      split at hrt
      · next h01 =>
        cases hrt
        rw [er] at hr
        refine W.zret (Qc := Qcf base b L xs cy D Y (.int _) τ) hx hb hr (by rcases h01 with rfl | rfl <;> rfl) (fun t ht hW => ?_) hH'.2.1.2.2 hdec
        have h1 := hend t ht hW
        rw [er] at h1
        exact h1
      · cases hrt
    · cases hrt
  · split at hrt
    · next er =>
      cases hrt
      rw [er] at hr
      refine W.lret (Qc := Qcf base b L xs cy D Y (.long _) τ) hx hb hr (fun t ht hW => ?_) hH'.2.1.2.2 hdec
      have h1 := hend t ht hW
      rw [er] at h1
      exact h1
    · cases hrt
  · split at hrt
    · next er =>
      cases hrt
      rw [er] at hr
      refine W.vret (Qc := Qcf base b L xs cy D Y .null τ) hx hb hr (fun t ht hW => ?_) hH'.2.1.2.2 hdec
      have h1 := hend t ht hW
      rw [er] at h1
      exact h1
    · cases hrt
  · cases hrt
/-- every callee is a method of the tables -/
theorem cal_ok {M : MI} (hM : M.1 < 13) {ins : Instr} {len : Nat} {st as rest : List Value} {σ : Sg} {Y : MI} (hc : cal M ins len st σ = some (Y, as, rest)) : okM Y := by
  unfold cal at hc
  split at hc
  · next ix =>
    split at hc
    · next Y0 ei =>
      split at hc
      · split at hc
        · cases hc
          have h1 : okM Y ∧ _ := tb_inv hM _ (lk_mem ei)
          exact h1.1
        · cases hc
      · cases hc
    · cases hc
  · next ix =>
    split at hc
    · next Y0 ei =>
      split at hc
      · cases hc
        have h1 : okM Y ∧ _ := tb_inv hM _ (lk_mem ei)
        exact h1.1
      · cases hc
    · cases hc
  · next ix =>
    split at hc
    · next Y0 k rest0 ei =>
      split at hc
      · cases hc
        have h1 : okM Y ∧ _ := tb_inv hM _ (lk_mem ei)
        exact h1.1
      · cases hc
    · next Y0 k rest0 ei =>
      split at hc
      · cases hc
        have h1 : okM Y ∧ _ := tb_inv hM _ (lk_mem ei)
        exact h1.1
      · cases hc
    · cases hc
  · cases hc
theorem snd_all (hL : L ≤ 3072) : ∀ (f d : Nat) (M : MI) (pc : Nat) (ls st : List Value) (σ : Sg) (v : Value) (τ : Sg), M.1 < 13 → ev f d M pc ls st σ = some (v, τ) → Fs l base b L xs cy D d M pc ls st σ v τ := by
  intro f
  induction f with
  | zero => intro d M pc ls st σ v τ hM h; simp [ev] at h
  | succ f ih =>
    intro d M pc ls st σ v τ hM h
    rw [ev] at h
    split at h
    · cases h
    · next ins len hdec =>
      split at h
      · next v0 hrt =>
        cases h
        intro p e R s m args below meth c H locs cells slots Q lsM C hsz hc hs hf hlo hH hl kret
        have k0 := kret H locs pc len ins st lsM hH hdec hrt
        simp only [Nat.sub_self, Nat.add_zero] at k0
        exact k0
      · split at h
        · next Y as rest hcal =>
          split at h
          · cases h
          · next d0 =>
            split at h
            · next hep =>
              split at h
              · cases h
              · next u τ1 h1 =>
                have hok := cal_ok hM hcal
                have g1 := ev_grow _ _ _ _ _ _ _ _ _ h1
                have g2 := ev_grow _ _ _ _ _ _ _ _ _ h
                have s1 := szs_le g1
                have s2 := szs_le g2
                have hCt : Ct l base b L xs cy D d0 Y as σ u τ1 := Ct_of hok hep (ih _ _ _ _ _ _ _ _ hok.1 h1)
                have hrest := ih _ _ _ _ _ _ _ _ hM h
                intro p e R s m args below meth c H locs cells slots Q lsM C hsz hc hs hf hlo hH hl kret
                refine so_call C hdec hcal hCt hsz ⟨by omega, by omega⟩ (by omega) (by omega) hH hl (fun H' locs' hH' => ?_)
                refine hrest p e R s m args below meth c H' locs' _ _ Q lsM C (by omega) (by omega) (by omega) hf hlo hH' hl (fun H2 locs2 pc2 len2 ins2 st2 lsM2 hH2 hd2 hr2 => ?_)
                have k0 := kret H2 locs2 pc2 len2 ins2 st2 lsM2 hH2 hd2 hr2
                rw [show cells + (τ1.1 - σ.1) + (τ.1 - τ1.1) = cells + (τ.1 - σ.1) by omega, show slots + (szs τ1.1 - szs σ.1) + (szs τ.1 - szs τ1.1) = slots + (szs τ.1 - szs σ.1) by omega]
                exact k0
            · cases h
        · split at h
          · cases h
          · next pc' ls' st' σ' hstp =>
            have g1 := stp_grow hstp
            have g2 := ev_grow _ _ _ _ _ _ _ _ _ h
            have s1 := szs_le g1
            have s2 := szs_le g2
            have hrest := ih _ _ _ _ _ _ _ _ hM h
            intro p e R s m args below meth c H locs cells slots Q lsM C hsz hc hs hf hlo hH hl kret
            refine stp_ok C hdec hstp hL hsz ⟨by omega, by omega⟩ (by omega) (by omega) hH hl (fun H' locs' lsM' hH' hl' => ?_)
            refine hrest p e R s m args below meth c H' locs' _ _ Q lsM' C (by omega) (by omega) (by omega) hf hlo hH' hl' (fun H2 locs2 pc2 len2 ins2 st2 lsM2 hH2 hd2 hr2 => ?_)
            have k0 := kret H2 locs2 pc2 len2 ins2 st2 lsM2 hH2 hd2 hr2
            rw [show cells + (σ'.1 - σ.1) + (τ.1 - σ'.1) = cells + (τ.1 - σ.1) by omega, show slots + (szs σ'.1 - szs σ.1) + (szs τ.1 - szs σ'.1) = slots + (szs τ.1 - szs σ.1) by omega]
            exact k0
end Run
