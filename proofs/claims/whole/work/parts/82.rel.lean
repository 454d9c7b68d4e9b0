/-! states that differ in flags that are not looked at, and in the script -/
def relv (k j : Nat) : Prop := (∃ c o i, fldT o i = some (c, j) ∧ shO k = some c ∧ skF (tyT c j) = 3) ∨ ∃ t n, shA k = some (t, n) ∧ 3 ≤ t ∧ j < n
def Rel (σ σ' : Sg) : Prop := σ'.1 = σ.1 ∧ (∀ k j, relv k j → σ.2.1 k j = true → σ'.2.1 k j = true) ∧ (∀ k, k < 96 → σ'.2.2.1 k = σ.2.2.1 k) ∧ σ'.2.2.2 = σ.2.2.2
/-- the script's rows -/
def scr (σ σ' : Sg) : Prop := σ'.2.2.1 1000 = σ.2.2.1 1000 ∧ σ'.2.2.1 1001 = σ.2.2.1 1001
def scq (ins : Instr) : Bool := match ins with
  | .iaload => true
  | .arraylength => true
  | _ => false
section
variable {M : MI} {pc pc' len : Nat} {ls ls' st st' : List Value} {σ σ' τ : Sg}
theorem Rel_I (R : Rel σ σ') {k j : Nat} {x : Int32} : Rel (σ.1, σ.2.1, up2 σ.2.2.1 k j x, σ.2.2.2) (σ'.1, σ'.2.1, up2 σ'.2.2.1 k j x, σ'.2.2.2) := by
  obtain ⟨r1, r2, r3, r4⟩ := R
  refine ⟨r1, r2, fun q hq => ?_, r4⟩
  funext t
  simp only [up2_at, r3 q hq]
theorem Rel_L (R : Rel σ σ') {k j : Nat} {x : Int64} : Rel (σ.1, σ.2.1, σ.2.2.1, up2L σ.2.2.2 k j x) (σ'.1, σ'.2.1, σ'.2.2.1, up2L σ'.2.2.2 k j x) := by
  obtain ⟨r1, r2, r3, r4⟩ := R
  exact ⟨r1, r2, r3, by rw [r4]⟩
theorem up2F_at {F : Nat → Nat → Bool} {k j q t : Nat} : up2F F k j q t = if q = k ∧ t = j then true else F q t := by
  unfold up2F va_up
  by_cases h : q = k
  · subst h
    by_cases h2 : t = j
    · simp [h2]
    · simp [h2]
  · simp [h]
theorem Rel_F (R : Rel σ σ') {k j : Nat} : Rel (σ.1, up2F σ.2.1 k j, σ.2.2.1, σ.2.2.2) (σ'.1, up2F σ'.2.1 k j, σ'.2.2.1, σ'.2.2.2) := by
  obtain ⟨r1, r2, r3, r4⟩ := R
  refine ⟨r1, fun q t h1 h2 => ?_, r3, r4⟩
  simp only [up2F_at] at h2 ⊢
  by_cases e : q = k ∧ t = j
  · rw [if_pos e]
  · rw [if_neg e] at h2 ⊢; exact r2 q t h1 h2
theorem Rel_born (R : Rel σ σ') (h : σ.1 < 96) : Rel (born σ) (born σ') := by
  obtain ⟨r1, r2, r3, r4⟩ := R
  unfold born
  refine ⟨by show σ'.1 + 1 = σ.1 + 1; rw [r1], fun q t h1 h2 => ?_, fun q hq => ?_, ?_⟩
  · show va_up σ'.2.1 σ'.1 (fun _ => false) q t = true
    have h2' : va_up σ.2.1 σ.1 (fun _ => false) q t = true := h2
    rw [r1]
    unfold va_up at h2' ⊢
    by_cases e : q = σ.1
    · rw [if_pos e] at h2'; cases h2'
    · rw [if_neg e] at h2' ⊢; exact r2 q t h1 h2'
  · show va_up σ'.2.2.1 σ'.1 (fun _ => 0) q = va_up σ.2.2.1 σ.1 (fun _ => 0) q
    rw [r1]
    unfold va_up
    by_cases e : q = σ.1
    · rw [if_pos e, if_pos e]
    · rw [if_neg e, if_neg e, r3 q hq]
  · show va_up σ'.2.2.2 σ'.1 (fun _ => 0) = va_up σ.2.2.2 σ.1 (fun _ => 0)
    rw [r1, r4]
/-- what a step gives on the other side -/
def Wr (pc' : Nat) (ls' st' : List Value) (σ σ' τ : Sg) (o : Option Nx) : Prop := ∃ τ', o = some (pc', ls', st', τ') ∧ Rel τ τ' ∧ scr σ τ ∧ scr σ' τ'
theorem scr_refl : scr σ σ := ⟨rfl, rfl⟩
theorem scr_I {k j : Nat} {x : Int32} (hk : k < 96) : scr σ (σ.1, σ.2.1, up2 σ.2.2.1 k j x, σ.2.2.2) := ⟨up2_ne (by omega), up2_ne (by omega)⟩
theorem scr_born (h : σ.1 < 96) : scr σ (born σ) := by
  unfold born
  exact ⟨vu_ne (by omega), vu_ne (by omega)⟩
theorem w_rdI {ty : Nat} (R : Rel σ σ') (hs : ty = 0 → scr σ σ') (h : rdI ty ls pc st σ = some (pc', ls', st', τ)) : Wr pc' ls' st' σ σ' τ (rdI ty ls pc st σ') := by
  obtain ⟨r1, r2, r3, r4⟩ := id R
  unfold rdI at h ⊢
  split at h
  · next i k st0 =>
    split at h
    · next ek =>
      split at h
      · next hc =>
        cases h
        have h0 : ty = 0 := by simp at hc; exact hc.1
        obtain ⟨s1, s2⟩ := hs h0
        refine ⟨σ', ?_, R, scr_refl, scr_refl⟩
        rw [if_pos ek, s1, s2]
        exact if_pos hc
      · cases h
    · next ek =>
      simp only [if_neg ek]
      split at h
      · next t n ea =>
        split at h
        · next hc =>
          cases h
          have hk := shA_lt ea
          refine ⟨σ', ?_, R, scr_refl, scr_refl⟩
          rw [r1, r3 k hk]
          simp only [hc, if_true]
        · cases h
      · cases h
  · cases h
theorem w_rdL (R : Rel σ σ') (h : rdL ls pc st σ = some (pc', ls', st', τ)) : Wr pc' ls' st' σ σ' τ (rdL ls pc st σ') := by
  obtain ⟨r1, r2, r3, r4⟩ := id R
  unfold rdL at h ⊢
  split at h
  · next i k st0 =>
    split at h
    · next t n ea =>
      split at h
      · next hc =>
        cases h
        refine ⟨σ', ?_, R, scr_refl, scr_refl⟩
        rw [r1, r4]
        simp only [hc, if_true]
      · cases h
    · cases h
  · cases h
theorem inA_lt {i : Int32} {n : Nat} (h : inA i n = true) : i.toNatClampNeg < n := by
  unfold inA at h
  simp at h
  exact h.2
theorem w_rdA (R : Rel σ σ') (h : rdA ls pc st σ = some (pc', ls', st', τ)) : Wr pc' ls' st' σ σ' τ (rdA ls pc st σ') := by
  obtain ⟨r1, r2, r3, r4⟩ := id R
  unfold rdA at h ⊢
  split at h
  · next i k st0 =>
    split at h
    · next t n ea =>
      split at h
      · next hc =>
        cases h
        simp only [Bool.and_eq_true, decide_eq_true_eq] at hc
        obtain ⟨⟨⟨c1, c2⟩, c3⟩, c4⟩ := hc
        refine ⟨σ', ?_, R, scr_refl, scr_refl⟩
        have c4' := r2 _ _ (Or.inr ⟨t, n, ea, c2, inA_lt c3⟩) c4
        rw [r1]
        simp only [c1, c2, c3, c4', decide_true, Bool.and_true, if_true]
      · cases h
    · cases h
  · cases h
theorem w_wrI {ty : Nat} {f : Int32 → Int32} (R : Rel σ σ') (h : wrI ty f ls pc st σ = some (pc', ls', st', τ)) : Wr pc' ls' st' σ σ' τ (wrI ty f ls pc st σ') := by
  obtain ⟨r1, r2, r3, r4⟩ := id R
  unfold wrI at h ⊢
  split at h
  · next x i k st0 =>
    split at h
    · next t n ea =>
      split at h
      · next hc =>
        cases h
        have hk := shA_lt ea
        refine ⟨_, ?_, Rel_I R, scr_I hk, scr_I hk⟩
        rw [← r1] at hc
        simp only [hc, if_true]
      · cases h
    · cases h
  · cases h
theorem w_wrL (R : Rel σ σ') (h : wrL ls pc st σ = some (pc', ls', st', τ)) : Wr pc' ls' st' σ σ' τ (wrL ls pc st σ') := by
  obtain ⟨r1, r2, r3, r4⟩ := id R
  unfold wrL at h ⊢
  split at h
  · next x i k st0 =>
    split at h
    · next t n ea =>
      split at h
      · next hc =>
        cases h
        refine ⟨_, ?_, Rel_L R, ⟨rfl, rfl⟩, ⟨rfl, rfl⟩⟩
        rw [← r1] at hc
        simp only [hc, if_true]
      · cases h
    · cases h
  · cases h
theorem w_wrA (R : Rel σ σ') (h : wrA ls pc st σ = some (pc', ls', st', τ)) : Wr pc' ls' st' σ σ' τ (wrA ls pc st σ') := by
  obtain ⟨r1, r2, r3, r4⟩ := id R
  unfold wrA at h ⊢
  split at h
  · next q i k st0 =>
    split at h
    · next t n ea =>
      split at h
      · next hc =>
        cases h
        refine ⟨_, ?_, Rel_F R, ⟨rfl, rfl⟩, ⟨rfl, rfl⟩⟩
        rw [← r1] at hc
        simp only [hc, if_true]
      · cases h
    · cases h
  · cases h
theorem w_get {ix : Nat} (R : Rel σ σ') (h : getF M ix ls pc st σ = some (pc', ls', st', τ)) : Wr pc' ls' st' σ σ' τ (getF M ix ls pc st σ') := by
  obtain ⟨r1, r2, r3, r4⟩ := id R
  unfold getF at h ⊢
  split at h
  · next k st0 =>
    split at h
    · next c j ef =>
      split at h
      · next hc =>
        have hc' := hc
        simp only [Bool.and_eq_true, decide_eq_true_eq] at hc'
        have hk := shO_lt hc'.2
        rw [← r1] at hc
        simp only [hc, if_true]
        split at h
        · next e => cases h; exact ⟨σ', by simp only [e, r4], R, scr_refl, scr_refl⟩
        · next e =>
          split at h
          · next hF =>
            cases h
            have hF' := r2 _ _ (Or.inl ⟨c, _, _, ef, hc'.2, e⟩) hF
            exact ⟨σ', by simp only [e, hF', if_true], R, scr_refl, scr_refl⟩
          · cases h
        · next e1 e2 =>
          cases h
          refine ⟨σ', ?_, R, scr_refl, scr_refl⟩
          rw [r3 k hk]
      · cases h
    · cases h
  · cases h
theorem w_put {ix : Nat} (R : Rel σ σ') (h : putF M ix ls pc st σ = some (pc', ls', st', τ)) : Wr pc' ls' st' σ σ' τ (putF M ix ls pc st σ') := by
  obtain ⟨r1, r2, r3, r4⟩ := id R
  unfold putF at h ⊢
  split at h
  · next v k st0 =>
    split at h
    · next c j ef =>
      split at h
      · next hc =>
        have hc' := hc
        simp only [Bool.and_eq_true, decide_eq_true_eq] at hc'
        have hk := shO_lt hc'.2
        rw [← r1] at hc
        simp only [hc, if_true]
        split at h
        · next e => cases h; exact ⟨_, by simp only [e], Rel_I R, scr_I hk, scr_I hk⟩
        · next e => cases h; exact ⟨_, by simp only [e], Rel_L R, ⟨rfl, rfl⟩, ⟨rfl, rfl⟩⟩
        · next e =>
          split at h
          · next hx => cases h; exact ⟨_, by simp only [e, hx, if_true], Rel_I R, scr_I hk, scr_I hk⟩
          · cases h
        · next e =>
          split at h
          · next hx => cases h; rw [← r1] at hx; exact ⟨_, by simp only [e, hx, if_true], Rel_F R, ⟨rfl, rfl⟩, ⟨rfl, rfl⟩⟩
          · cases h
        · cases h
      · cases h
    · cases h
  · cases h
theorem w_newA {t : Nat} (R : Rel σ σ') (h : newA t ls pc st σ = some (pc', ls', st', τ)) : Wr pc' ls' st' σ σ' τ (newA t ls pc st σ') := by
  obtain ⟨r1, r2, r3, r4⟩ := id R
  unfold newA at h ⊢
  split at h
  · next n st0 =>
    split at h
    · next hc =>
      cases h
      have hc' := hc
      simp only [Bool.and_eq_true, decide_eq_true_eq] at hc'
      have hl : σ.1 < 96 := hc'.1.1
      refine ⟨_, ?_, Rel_born R hl, scr_born hl, scr_born (by rw [r1]; exact hl)⟩
      rw [r1]
      simp only [hc, if_true]
    · cases h
  · cases h
set_option maxHeartbeats 4000000 in
theorem w_stp {ins : Instr} (R : Rel σ σ') (hs : scq ins = true → scr σ σ') (h : stp M ins len pc ls st σ = some (pc', ls', st', τ)) : Wr pc' ls' st' σ σ' τ (stp M ins len pc ls st σ') := by
  obtain ⟨r1, r2, r3, r4⟩ := id R
  have pass : ∀ {o : Option Nx}, o = some (pc', ls', st', σ') → τ = σ → Wr pc' ls' st' σ σ' τ o := fun e1 e2 => by
    subst e2
    exact ⟨σ', e1, R, scr_refl, scr_refl⟩
  unfold stp at h
  split at h
  all_goals first
    | exact w_rdI R (fun _ => hs rfl) h
    | exact w_rdI R (fun q => by cases q) h
    | exact w_rdL R h
    | exact w_rdA R h
    | exact w_wrI R h
    | exact w_wrL R h
    | exact w_wrA R h
    | exact w_get R h
    | exact w_put R h
    | exact w_newA R h
    | (cases h; exact pass rfl rfl)
    | skip
  all_goals try simp only [ldI, ldL, ldA, stI, stA, stL, bI, bL, bD, bS, uI] at h
  all_goals try (split at h <;> first | (cases h; done) | (cases h; exact pass rfl rfl) | skip)
  all_goals try (cases h; refine pass ?_ rfl; simp only [stp, ldI, ldL, ldA, stI, stA, stL, bI, bL, bD, bS, uI, *]; done)
  all_goals try (split at h <;> first | (cases h; done) | (cases h; refine pass ?_ rfl; simp only [stp, stI, stA, stL, bD, *, if_true, if_false, and_self]; done) | skip)
  all_goals try (cases h; done)
  · next k0 st0 o0 n0 en =>
    cases h
    obtain ⟨s1, s2⟩ := hs rfl
    have e2 : lenOf σ' k0 = lenOf σ k0 := by unfold lenOf; rw [r1, s2]
    refine pass ?_ rfl
    simp only [stp, e2, en]
  · next ix o0 c0 en hc =>
    cases h
    have hc' := hc
    simp only [Bool.and_eq_true, decide_eq_true_eq] at hc'
    have hl : σ.1 < 96 := hc'.1
    refine ⟨_, ?_, Rel_born R hl, scr_born hl, scr_born (by rw [r1]; exact hl)⟩
    rw [← r1] at hc ⊢
    simp only [stp, en, hc, if_true]
  · next ix o0 c0 en =>
    have := w_newA R h
    simp only [stp, en]
    exact this
  · next ix o0 st1 Y n dp q sp k st0 ei o1 o2 t0 n0 t1 n1 ek eq =>
    split at h
    · next hc =>
      cases h
      have hk := shA_lt ek
      have hq := shA_lt eq
      rw [← r1] at hc
      refine ⟨(σ'.1, σ'.2.1, va_up σ'.2.2.1 q (va_cpy (σ'.2.2.1 k) (σ'.2.2.1 q) sp.toNatClampNeg dp.toNatClampNeg n.toNatClampNeg), σ'.2.2.2), ?_, ⟨r1, r2, fun t ht => ?_, r4⟩, ⟨vu_ne (by omega), vu_ne (by omega)⟩, ⟨vu_ne (by omega), vu_ne (by omega)⟩⟩
      · simp only [stp, ei, ek, eq, hc, if_true]
      · show va_up σ'.2.2.1 q _ t = va_up σ.2.2.1 q _ t
        rw [r3 k hk, r3 q hq]
        unfold va_up
        by_cases e : t = q
        · rw [if_pos e, if_pos e]
        · rw [if_neg e, if_neg e, r3 t ht]
    · cases h
end
