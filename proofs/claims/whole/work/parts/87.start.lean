/-! the law from its start -/
theorem lookup_mem {β : Type} {i : Nat} {v : β} : ∀ l : List (Nat × β), l.lookup i = some v → (i, v) ∈ l := by
  intro l
  induction l with
  | nil => intro h; simp at h
  | cons p l ih =>
    intro h
    obtain ⟨a, b⟩ := p
    rw [List.lookup_cons] at h
    by_cases e : i = a
    · subst e
      simp at h
      rw [h]
      exact List.mem_cons_self
    · have : (i == a) = false := by simp [e]
      rw [this] at h
      exact List.mem_cons_of_mem _ (ih h)
theorem fld_all : ∀ o, o < 11 → (fldL o).all (fun e => decide (e.2.2 < nfT e.2.1 ∧ e.2.2 < 40)) = true := by decide +kernel
theorem fld_lt {o i c j : Nat} (h : fldT o i = some (c, j)) : j < nfT c ∧ j < 40 := by
  unfold fldT at h
  have hm := lookup_mem _ h
  by_cases ho : o < 11
  · have := List.all_eq_true.mp (fld_all o ho) _ hm
    exact of_decide_eq_true this
  · have e : fldL o = [] := by
      unfold fldL
      split <;> first | omega | rfl
    rw [e] at hm
    cases hm
theorem shA_40 : ∀ k, k < 96 → (match shA k with
  | some a => decide (a.1 < 3 ∨ a.2 ≤ 40)
  | none => true) = true := by decide +kernel
theorem shO_A : ∀ k, k < 96 → (shO k = none ∨ shA k = none) := by decide +kernel
theorem relv_B {k j : Nat} (h : relv k j) : k < 96 ∧ j < 40 ∧ relB k j = true := by
  rcases h with ⟨c, o, i, h1, h2, h3⟩ | ⟨t, n, h1, h2, h3⟩
  · obtain ⟨g1, g2⟩ := fld_lt h1
    refine ⟨shO_lt h2, g2, ?_⟩
    unfold relB
    rw [h2]
    simp [g1, h3]
  · have hk := shA_lt h1
    have h40 := shA_40 k hk
    rw [h1] at h40
    have h40' : t < 3 ∨ n ≤ 40 := of_decide_eq_true h40
    have hO : shO k = none := by
      rcases shO_A k hk with q | q
      · exact q
      · rw [q] at h1; cases h1
    refine ⟨hk, by omega, ?_⟩
    unfold relB
    rw [hO, h1]
    simp [h2, h3]
theorem con_spec : ∃ vA σA vB τ, evg 4000 99 mX9_init 0 [.ref 0, .null] [] (born sgZ) = some (vA, σA) ∧ σA.1 = 68 ∧ evg 4000 99 mX10_init 0 [.ref 68, .null] [] (born σA) = some (vB, τ) ∧ fctB τ = true := by
  have h := con_chk
  revert h
  generalize evg 4000 99 mX9_init 0 [.ref 0, .null] [] (born sgZ) = X
  intro h
  cases X with
  | none => cases h
  | some p =>
    obtain ⟨vA, σA⟩ := p
    simp only [Bool.and_eq_true, decide_eq_true_eq] at h
    obtain ⟨h1, h2⟩ := h
    refine ⟨vA, σA, ?_⟩
    revert h2
    generalize evg 4000 99 mX10_init 0 [.ref 68, .null] [] (born σA) = Y
    intro h2
    cases Y with
    | none => cases h2
    | some q => exact ⟨q.1, q.2, rfl, h1, rfl, h2⟩
theorem fct_inv {I : Nat → Nat → Int32} {L : Nat → Nat → Int64} {J : Nat → Int32} {z : Nat} (h : fctI I L = true) (hJ : I 1000 = J) (hz : I 1001 0 = nI z) : InvS J z (rn I L) := by
  unfold fctI at h
  simp only [Bool.and_eq_true, List.all_eq_true, decide_eq_true_eq, List.mem_range] at h
  obtain ⟨⟨⟨⟨⟨h1, h2⟩, h3⟩, h4⟩, h5⟩, h6⟩ := h
  refine ⟨I, L, rfl, ⟨0, fun _ _ => 0, 0, fun _ _ => 0, none, none, ⟨h3.1, fun n hn => absurd hn (Nat.not_lt_zero n), fun n _ hn => h1 n hn⟩, ⟨h3.2.1, fun n hn => absurd hn (Nat.not_lt_zero n)⟩, ⟨Nat.zero_le _, fun n hn => absurd hn (Nat.not_lt_zero n)⟩, ⟨h3.2.2.1, fun n hn => absurd hn (Nat.not_lt_zero n)⟩, ⟨h3.2.2.2, fun n hn => absurd hn (Nat.not_lt_zero n)⟩, ⟨Nat.zero_le _, fun n hn => absurd hn (Nat.not_lt_zero n)⟩, ⟨h4.1, h4.2.1⟩, ⟨h4.2.2.1, h4.2.2.2⟩, fun k hk => Or.inl (h2 k hk), ⟨h5.1, h5.2.1, h5.2.2, h6⟩⟩, hJ, hz⟩
theorem rel_sg0 {L : Nat} {xs : Nat → Int32} : Rel sgZ (sg0 L xs) := by
  refine ⟨rfl, fun _ _ _ h => h, fun k hk => ?_, rfl⟩
  show (if k = 1000 then xs else if k = 1001 then (fun _ => Int32.ofNat L) else (fun _ => 0)) = fun _ => 0
  rw [if_neg (by omega), if_neg (by omega)]
set_option maxHeartbeats 4000000 in
theorem law_wp (L : Nat) (xs : Nat → Int32) (hL : L ≤ 3072) : wp 100 mL_law 0 [.ref 1000, .null, .null, .null] [] (sg0 L xs) (fun v _ => v = .int 1) := by
  obtain ⟨vA, σA, vB, τ, c1, c2, c3, c4⟩ := con_spec
  have R0 : Rel (born sgZ) (born (sg0 L xs)) := Rel_born rel_sg0 (by decide)
  obtain ⟨σ1, d1, d2, d3⟩ := evg_rel _ _ _ _ _ _ _ _ _ _ R0 c1
  have n1 : σ1.1 = 68 := by rw [d2.1, c2]
  have R1 : Rel (born σA) (born σ1) := Rel_born d2 (by omega)
  obtain ⟨σ2, e1, e2, e3⟩ := evg_rel _ _ _ _ _ _ _ _ _ _ R1 c3
  have s0 : scr (sg0 L xs) (born (sg0 L xs)) := scr_born (by show (0 : Nat) < 96; omega)
  have s1 : scr σ1 (born σ1) := scr_born (by omega)
  have S := scr_t (scr_t s0 d3) (scr_t s1 e3)
  unfold fctB at c4
  simp only [Bool.and_eq_true, decide_eq_true_eq, List.all_eq_true, List.mem_range, Bool.or_eq_true, Bool.not_eq_true'] at c4
  obtain ⟨⟨k1, k2⟩, k3⟩ := c4
  -- the state behind the constructors, and the one in which all is made
  have n2 : σ2.1 = 96 := by rw [e2.1, k1]
  have R2 : Rel (rn σ2.2.2.1 σ2.2.2.2) σ2 := by
    refine ⟨n2, fun k j h _ => ?_, fun _ _ => rfl, rfl⟩
    obtain ⟨q1, q2, q3⟩ := relv_B h
    refine e2.2.1 k j h ?_
    rcases k2 k q1 j q2 with q | q
    · rw [q3] at q; cases q
    · exact q
  have k3' : fctI σ2.2.2.1 σ2.2.2.2 = true := by
    have : fctI σ2.2.2.1 σ2.2.2.2 = fctI τ.2.2.1 τ.2.2.2 := by
      unfold fctI
      rw [e2.2.2.2]
      have r := e2.2.2.1
      have a1 : (List.range 16).all (fun n => decide (σ2.2.2.1 (4 + n) 6 = nI 0 ∧ σ2.2.2.1 (4 + n) 7 = nI 1000000000 ∧ σ2.2.2.1 (4 + n) 8 = nI 0)) = (List.range 16).all (fun n => decide (τ.2.2.1 (4 + n) 6 = nI 0 ∧ τ.2.2.1 (4 + n) 7 = nI 1000000000 ∧ τ.2.2.1 (4 + n) 8 = nI 0)) := by
        rw [Bool.eq_iff_iff, List.all_eq_true, List.all_eq_true]
        constructor
        · intro h n hn
          rw [← r (4 + n) (by have := List.mem_range.mp hn; omega)]
          exact h n hn
        · intro h n hn
          rw [r (4 + n) (by have := List.mem_range.mp hn; omega)]
          exact h n hn
      have a2 : (List.range 4).all (fun k => decide (σ2.2.2.1 (60 + 2 * k) 1 = -9 ∧ σ2.2.2.1 89 k = -1)) = (List.range 4).all (fun k => decide (τ.2.2.1 (60 + 2 * k) 1 = -9 ∧ τ.2.2.1 89 k = -1)) := by
        rw [Bool.eq_iff_iff, List.all_eq_true, List.all_eq_true]
        constructor
        · intro h n hn
          rw [← r (60 + 2 * n) (by have := List.mem_range.mp hn; omega), ← r 89 (by omega)]
          exact h n hn
        · intro h n hn
          rw [r (60 + 2 * n) (by have := List.mem_range.mp hn; omega), r 89 (by omega)]
          exact h n hn
      rw [a1, a2, r 1 (by omega), r 68 (by omega), r 23 (by omega), r 49 (by omega), r 51 (by omega), r 0 (by omega), r 37 (by omega), r 45 (by omega), r 46 (by omega), r 47 (by omega)]
    rw [this]; exact k3
  have hI : InvS xs L (rn σ2.2.2.1 σ2.2.2.2) := fct_inv k3' (by rw [S.1]; rfl) (by rw [S.2]; rfl)
  have fin : wp 100 mL_law 18 [.ref 1000, .ref 0, .ref 68, .int (nI 0)] [] σ2 (fun v _ => v = .int 1) := by
    obtain ⟨f, v, ρ, g1, g2⟩ := law_loop hL (L + 12) 0 _ (by omega) (by omega) hI
    obtain ⟨ρ', g3, -, -⟩ := ev_rel _ _ _ _ _ _ _ _ _ _ R2 ⟨rfl, rfl⟩ g1
    exact ⟨f, v, ρ', g3, g2⟩
  -- new RateTree()
  have t1 : stp mL_law (.new 7) 3 0 [.ref 1000, .null, .null, .null] [] (sg0 L xs) = some (3, [.ref 1000, .null, .null, .null], [.ref 0], born (sg0 L xs)) := rfl
  rw [wp_stp (dcq cod_L_law dL_law_0) rfl rfl t1, sL_law_3, wp_cal (Y := mX9_init) (as := [.ref 0]) (rest := [.ref 0]) (d := 99) (dcq cod_L_law dL_law_4) rfl rfl (by decide)]
  refine ⟨4000, vA, σ1, d1, ?_⟩
  show wp 100 mL_law 7 [.ref 1000, .null, .null, .null] [.ref 0] σ1 _
  rw [sL_law_7 (by decide)]
  -- new RateTreeModel()
  have t2 : stp mL_law (.new 10) 3 8 [.ref 1000, .ref 0, .null, .null] [] σ1 = some (11, [.ref 1000, .ref 0, .null, .null], [.ref 68], born σ1) := by
    have en : newT mL_law.1 10 = some 10 := by decide
    have eo : shO 68 = some 10 := by decide
    simp only [stp, en, n1, eo]
    rfl
  rw [wp_stp (dcq cod_L_law dL_law_8) rfl rfl t2, sL_law_11]
  have t3 : cal mL_law (.invokespecial 12) 3 [.ref 68, .ref 68] (born σ1) = some (mX10_init, [.ref 68], [.ref 68]) := rfl
  rw [wp_cal (Y := mX10_init) (as := [.ref 68]) (rest := [.ref 68]) (d := 99) (dcq cod_L_law dL_law_12) rfl t3 (by decide)]
  refine ⟨4000, vB, σ2, e1, ?_⟩
  show wp 100 mL_law 15 [.ref 1000, .ref 0, .null, .null] [.ref 68] σ2 _
  rw [sL_law_15 (by decide), sL_law_16, sL_law_17 (by decide)]
  exact fin
