/-! whole runs over such states -/
def evg : Nat → Nat → MI → Nat → List Value → List Value → Sg → Option (Value × Sg)
  | 0, _, _, _, _, _, _ => none
  | f + 1, d, M, pc, ls, st, σ => match decode M.2.2.1 pc with
    | .error _ => none
    | .ok (ins, len) => match rtn M ins len st with
      | some v => some (v, σ)
      | none => match cal M ins len st σ with
        | some (Y, as, rest) => match d with
          | 0 => none
          | d + 1 => if (epd as).length ≤ Y.2.2.2.1 then (match evg f d Y 0 (ety Y as) [] σ with
            | none => none
            | some (v, σ') => evg f (d + 1) M (pc + 3) ls (if Y.2.2.2.2.isSome then v :: rest else rest) σ') else none
        | none => if scq ins then none else match stp M ins len pc ls st σ with
          | none => none
          | some (pc', ls', st', σ') => evg f d M pc' ls' st' σ'
theorem cal_rel {M : MI} {ins : Instr} {len : Nat} {st : List Value} {σ σ' : Sg} (h : σ'.1 = σ.1) : cal M ins len st σ' = cal M ins len st σ := by
  unfold cal
  rw [h]
theorem scr_t {a b c : Sg} (h1 : scr a b) (h2 : scr b c) : scr a c := ⟨by rw [h2.1, h1.1], by rw [h2.2, h1.2]⟩
theorem scr_s {a b : Sg} (h1 : scr a b) : scr b a := ⟨h1.1.symm, h1.2.symm⟩
theorem evg_rel : ∀ (f d : Nat) (M : MI) (pc : Nat) (ls st : List Value) (σ σ' : Sg) (v : Value) (τ : Sg), Rel σ σ' → evg f d M pc ls st σ = some (v, τ) → ∃ τ', ev f d M pc ls st σ' = some (v, τ') ∧ Rel τ τ' ∧ scr σ' τ' := by
  intro f
  induction f with
  | zero => intro d M pc ls st σ σ' v τ R h; simp [evg] at h
  | succ f ih =>
    intro d M pc ls st σ σ' v τ R h
    rw [evg] at h
    rw [ev]
    cases hd : decode M.2.2.1 pc with
    | error x => rw [hd] at h; simp at h
    | ok q =>
      obtain ⟨ins, len⟩ := q
      rw [hd] at h
      simp only at h ⊢
      cases hr : rtn M ins len st with
      | some u =>
        rw [hr] at h
        simp only [Option.some.injEq, Prod.mk.injEq] at h
        obtain ⟨rfl, rfl⟩ := h
        exact ⟨σ', rfl, R, scr_refl⟩
      | none =>
        rw [hr] at h
        simp only at h ⊢
        rw [cal_rel R.1]
        cases hc : cal M ins len st σ with
        | some q =>
          obtain ⟨Y, as, rest⟩ := q
          rw [hc] at h
          simp only at h ⊢
          cases d with
          | zero => simp at h
          | succ d =>
            simp only at h ⊢
            by_cases hl : (epd as).length ≤ Y.2.2.2.1
            · rw [if_pos hl] at h ⊢
              cases h1 : evg f d Y 0 (ety Y as) [] σ with
              | none => rw [h1] at h; simp at h
              | some q =>
                obtain ⟨u, σ1⟩ := q
                rw [h1] at h
                obtain ⟨τ1, e1, e2, e3⟩ := ih _ _ _ _ _ _ σ' _ _ R h1
                obtain ⟨τ2, g1, g2, g3⟩ := ih _ _ _ _ _ _ τ1 _ _ e2 h
                exact ⟨τ2, by rw [e1]; exact g1, g2, scr_t e3 g3⟩
            · rw [if_neg hl] at h; cases h
        | none =>
          rw [hc] at h
          simp only at h ⊢
          cases hq : scq ins with
          | true => rw [hq] at h; simp at h
          | false =>
            rw [hq] at h
            simp only [Bool.false_eq_true, if_false] at h
            cases hs : stp M ins len pc ls st σ with
            | none => rw [hs] at h; simp at h
            | some q =>
              obtain ⟨pc', ls', st', σ1⟩ := q
              rw [hs] at h
              simp only at h
              obtain ⟨τ1, e1, e2, -, e3⟩ := w_stp R (fun z => by rw [hq] at z; cases z) hs
              obtain ⟨τ2, g1, g2, g3⟩ := ih _ _ _ _ _ _ τ1 _ _ e2 h
              exact ⟨τ2, by rw [e1]; exact g1, g2, scr_t e3 g3⟩
theorem ev_rel : ∀ (f d : Nat) (M : MI) (pc : Nat) (ls st : List Value) (σ σ' : Sg) (v : Value) (τ : Sg), Rel σ σ' → scr σ σ' → ev f d M pc ls st σ = some (v, τ) → ∃ τ', ev f d M pc ls st σ' = some (v, τ') ∧ Rel τ τ' ∧ scr τ τ' := by
  intro f
  induction f with
  | zero => intro d M pc ls st σ σ' v τ R S h; simp [ev] at h
  | succ f ih =>
    intro d M pc ls st σ σ' v τ R S h
    rw [ev] at h ⊢
    cases hd : decode M.2.2.1 pc with
    | error x => rw [hd] at h; simp at h
    | ok q =>
      obtain ⟨ins, len⟩ := q
      rw [hd] at h
      simp only at h ⊢
      cases hr : rtn M ins len st with
      | some u =>
        rw [hr] at h
        simp only [Option.some.injEq, Prod.mk.injEq] at h
        obtain ⟨rfl, rfl⟩ := h
        exact ⟨σ', rfl, R, S⟩
      | none =>
        rw [hr] at h
        simp only at h ⊢
        rw [cal_rel R.1]
        cases hc : cal M ins len st σ with
        | some q =>
          obtain ⟨Y, as, rest⟩ := q
          rw [hc] at h
          simp only at h ⊢
          cases d with
          | zero => simp at h
          | succ d =>
            simp only at h ⊢
            by_cases hl : (epd as).length ≤ Y.2.2.2.1
            · rw [if_pos hl] at h ⊢
              cases h1 : ev f d Y 0 (ety Y as) [] σ with
              | none => rw [h1] at h; simp at h
              | some q =>
                obtain ⟨u, σ1⟩ := q
                rw [h1] at h
                obtain ⟨τ1, e1, e2, e3⟩ := ih _ _ _ _ _ _ σ' _ _ R S h1
                obtain ⟨τ2, g1, g2, g3⟩ := ih _ _ _ _ _ _ τ1 _ _ e2 e3 h
                exact ⟨τ2, by rw [e1]; exact g1, g2, g3⟩
            · rw [if_neg hl] at h; cases h
        | none =>
          rw [hc] at h
          simp only at h ⊢
          cases hs : stp M ins len pc ls st σ with
          | none => rw [hs] at h; simp at h
          | some q =>
            obtain ⟨pc', ls', st', σ1⟩ := q
            rw [hs] at h
            simp only at h
            obtain ⟨τ1, e1, e2, e4, e3⟩ := w_stp R (fun _ => S) hs
            obtain ⟨τ2, g1, g2, g3⟩ := ih _ _ _ _ _ _ τ1 _ _ e2 (scr_t (scr_t (scr_s e4) S) e3) h
            exact ⟨τ2, by rw [e1]; exact g1, g2, g3⟩
/-- where all is made nothing more is made, and what is set stays so -/
theorem stp_rn {M : MI} {ins : Instr} {len pc pc' : Nat} {ls ls' st st' : List Value} {σ τ : Sg} (h1 : σ.1 = 96) (h2 : ∀ k j, σ.2.1 k j = true) (h : stp M ins len pc ls st σ = some (pc', ls', st', τ)) : τ.1 = 96 ∧ ∀ k j, τ.2.1 k j = true := by
  have hF : ∀ k j q t, up2F σ.2.1 k j q t = true := fun k j q t => by
    rw [up2F_at]
    split
    · rfl
    · exact h2 q t
  unfold stp at h
  split at h
  all_goals try (simp only [ldI, ldL, ldA, stI, stL, stA, bI, bL, bD, bS, uI, rdI, rdL, rdA, wrI, wrL, wrA, getF, putF, newA, h1, Nat.lt_irrefl, decide_false, Bool.false_and, Bool.false_eq_true, if_false] at h)
  all_goals repeat' split at h
  all_goals first
    | (cases h; done)
    | (cases h; exact ⟨h1, h2⟩)
    | (cases h; exact ⟨rfl, h2⟩)
    | (cases h; exact ⟨h1, hF _ _⟩)
    | (cases h; exact ⟨rfl, hF _ _⟩)
theorem Rel_refl {σ : Sg} : Rel σ σ := ⟨rfl, fun _ _ _ h => h, fun _ _ => rfl, rfl⟩
theorem ev_rn : ∀ (f d : Nat) (M : MI) (pc : Nat) (ls st : List Value) (σ : Sg) (v : Value) (τ : Sg), σ.1 = 96 → (∀ k j, σ.2.1 k j = true) → ev f d M pc ls st σ = some (v, τ) → (τ.1 = 96 ∧ ∀ k j, τ.2.1 k j = true) ∧ scr σ τ ∧ (M.2.2.2.2 = some .int → ∃ x, v = .int x) ∧ (M.2.2.2.2 = some .long → ∃ x, v = .long x) := by
  intro f
  induction f with
  | zero => intro d M pc ls st σ v τ h1 h2 h; simp [ev] at h
  | succ f ih =>
    intro d M pc ls st σ v τ h1 h2 h
    rw [ev] at h
    cases hd : decode M.2.2.1 pc with
    | error x => rw [hd] at h; simp at h
    | ok q =>
      obtain ⟨ins, len⟩ := q
      rw [hd] at h
      simp only at h
      cases hr : rtn M ins len st with
      | some u =>
        rw [hr] at h
        simp only [Option.some.injEq, Prod.mk.injEq] at h
        obtain ⟨rfl, rfl⟩ := h
        refine ⟨⟨h1, h2⟩, scr_refl, fun e => ?_, fun e => ?_⟩
        · unfold rtn at hr
          rw [e] at hr
          split at hr <;> simp at hr
          exact ⟨_, hr.symm⟩
        · unfold rtn at hr
          rw [e] at hr
          split at hr <;> simp at hr
          exact ⟨_, hr.symm⟩
      | none =>
        rw [hr] at h
        simp only at h
        cases hc : cal M ins len st σ with
        | some q =>
          obtain ⟨Y, as, rest⟩ := q
          rw [hc] at h
          simp only at h
          cases d with
          | zero => simp at h
          | succ d =>
            simp only at h
            by_cases hl : (epd as).length ≤ Y.2.2.2.1
            · rw [if_pos hl] at h
              cases h3 : ev f d Y 0 (ety Y as) [] σ with
              | none => rw [h3] at h; simp at h
              | some q =>
                obtain ⟨u, σ1⟩ := q
                rw [h3] at h
                obtain ⟨⟨a1, a2⟩, a3, -⟩ := ih _ _ _ _ _ _ _ _ h1 h2 h3
                obtain ⟨b1, b2, b3⟩ := ih _ _ _ _ _ _ _ _ a1 a2 h
                exact ⟨b1, scr_t a3 b2, b3⟩
            · rw [if_neg hl] at h; cases h
        | none =>
          rw [hc] at h
          simp only at h
          cases hs : stp M ins len pc ls st σ with
          | none => rw [hs] at h; simp at h
          | some q =>
            obtain ⟨pc', ls', st', σ1⟩ := q
            rw [hs] at h
            simp only at h
            obtain ⟨a1, a2⟩ := stp_rn h1 h2 hs
            obtain ⟨-, -, -, a3, -⟩ := w_stp Rel_refl (fun _ => scr_refl) hs
            obtain ⟨b1, b2, b3⟩ := ih _ _ _ _ _ _ _ _ a1 a2 h
            exact ⟨b1, scr_t a3 b2, b3⟩
/-- a call on a state in which all is made -/
theorem wp_rn {d : Nat} {M : MI} {pc : Nat} {ls st : List Value} {I : Nat → Nat → Int32} {L : Nat → Nat → Int64} {Q : Value → Sg → Prop} (h : wp d M pc ls st (rn I L) Q) : wp d M pc ls st (rn I L) (fun v τ => Q v τ ∧ (∃ I' L', τ = rn I' L' ∧ I' 1000 = I 1000 ∧ I' 1001 = I 1001) ∧ (M.2.2.2.2 = some .int → ∃ x, v = .int x) ∧ (M.2.2.2.2 = some .long → ∃ x, v = .long x)) := by
  obtain ⟨f, v, τ, h1, h2⟩ := h
  obtain ⟨⟨a1, a2⟩, a3, a4, a5⟩ := ev_rn f d M pc ls st (rn I L) v τ rfl (fun _ _ => rfl) h1
  refine ⟨f, v, τ, h1, h2, ⟨τ.2.2.1, τ.2.2.2, ?_, a3.1, a3.2⟩, a4, a5⟩
  obtain ⟨n, F, I2, L2⟩ := τ
  have e1 : n = 96 := a1
  have e2 : F = fun _ _ => true := by funext k j; exact a2 k j
  subst e1 e2
  rfl
