/-! locals, the frame's facts -/
theorem adv_cat (base b : Nat) (v : Value) : (adv base b v).category = v.category := by cases v <;> rfl
def LR (base b : Nat) (ls : List Value) (nL : Nat) (lsM : Array Slot) : Prop := lsM.size = nL ∧ lv_wf lsM ∧ ls.length = nL ∧ ∀ (i : Nat) (v : Value), ls[i]? = some v → v ≠ .null → lsM[i]? = some (.val (adv base b v))
def asc (base b : Nat) (ls : List Value) : List (Nat × Value) := (List.range ls.length).filterMap (fun i => match (ls[i]? : Option Value) with
  | some Value.null => none
  | some v => some (i, adv base b v)
  | none => none)
theorem asc_mem {base b : Nat} {ls : List Value} {i : Nat} {v : Value} (h : ls[i]? = some v) (hv : v ≠ .null) : (i, adv base b v) ∈ asc base b ls := by
  refine List.mem_filterMap.mpr ⟨i, List.mem_range.mpr (List.getElem?_eq_some_iff.mp h).1, ?_⟩
  rw [h]
  cases v <;> first | rfl | exact absurd rfl hv
theorem LR.has {base b : Nat} {ls : List Value} {nL : Nat} {lsM : Array Slot} (h : LR base b ls nL lsM) : lv_has lsM nL (asc base b ls) := by
  refine ⟨h.1, h.2.1, fun q hq => ?_⟩
  obtain ⟨i, -, hi⟩ := List.mem_filterMap.mp hq
  split at hi
  · cases hi
  · next v hn e => cases hi; exact h.2.2.2 i v e hn
  · cases hi
theorem lpre_len (ls : List Value) (i : Nat) : (lpre ls i).length = ls.length := by
  cases i with
  | zero => rfl
  | succ j =>
    unfold lpre
    simp only
    split
    · split <;> simp
    · rfl
/-- what is left of the locals when one is stored -/
theorem lpre_at {ls : List Value} {i j : Nat} {w : Value} (hj : j ≠ i) (h : (lpre ls i)[j]? = some w) (hw : w ≠ .null) : ls[j]? = some w ∧ ¬ (j + 1 = i ∧ w.category = 2) := by
  cases i with
  | zero => exact ⟨h, fun q => by omega⟩
  | succ i =>
    unfold lpre at h
    simp only at h
    split at h
    · next v e =>
      split at h
      · by_cases q : j = i
        · subst q
          rw [List.getElem?_set_self (List.getElem?_eq_some_iff.mp e).1] at h
          cases h
          exact absurd rfl hw
        · rw [List.getElem?_set_ne (fun x => q x.symm)] at h
          exact ⟨h, fun x => q (by omega)⟩
      · next hc =>
        refine ⟨h, fun x => ?_⟩
        have : j = i := by omega
        subst this
        rw [h] at e
        cases e
        exact hc x.2
    · next e =>
      refine ⟨h, fun x => ?_⟩
      have : j = i := by omega
      subst this
      rw [e] at h
      cases h
theorem LR.st1 {base b : Nat} {ls : List Value} {nL i : Nat} {v : Value} {ls' : Array Slot} (hlen : ls.length = nL) (hi : i < nL) (h : lv_has ls' nL ((i, adv base b v) :: (asc base b ls).filter (fun q => !(q.1 == i) && !(q.1 + 1 == i && q.2.category == 2)))) : LR base b (lst1 ls i v) nL ls' := by
  refine ⟨h.1, h.2.1, by rw [lst1, List.length_set, lpre_len, hlen], fun j w hj hw => ?_⟩
  unfold lst1 at hj
  by_cases e : j = i
  · subst e
    rw [List.getElem?_set_self (by rw [lpre_len]; omega)] at hj
    cases hj
    exact h.2.2 (j, adv base b v) List.mem_cons_self
  · rw [List.getElem?_set_ne (fun x => e x.symm)] at hj
    obtain ⟨h1, h2⟩ := lpre_at e hj hw
    refine h.2.2 (j, adv base b w) (List.mem_cons_of_mem _ (List.mem_filter.mpr ⟨asc_mem h1 hw, ?_⟩))
    simp only [adv_cat, Bool.and_eq_true, Bool.not_eq_true', beq_eq_false_iff_ne, ne_eq, Bool.and_eq_false_iff]
    refine ⟨e, ?_⟩
    by_cases q : j + 1 = i
    · exact Or.inr (fun x => h2 ⟨q, x⟩)
    · exact Or.inl q
theorem LR.st2 {base b : Nat} {ls : List Value} {nL i : Nat} {v : Value} {ls' : Array Slot} (hlen : ls.length = nL) (hi : i + 1 < nL) (h : lv_has ls' nL ((i, adv base b v) :: (asc base b ls).filter (fun q => !(q.1 == i) && (!(q.1 == i + 1) && !(q.1 + 1 == i && q.2.category == 2))))) : LR base b (lst2 ls i v) nL ls' := by
  refine ⟨h.1, h.2.1, by rw [lst2, List.length_set, List.length_set, lpre_len, hlen], fun j w hj hw => ?_⟩
  unfold lst2 at hj
  by_cases e1 : j = i + 1
  · subst e1
    rw [List.getElem?_set_self (by rw [List.length_set, lpre_len]; omega)] at hj
    cases hj
    exact absurd rfl hw
  · rw [List.getElem?_set_ne (fun x => e1 x.symm)] at hj
    by_cases e : j = i
    · subst e
      rw [List.getElem?_set_self (by rw [lpre_len]; omega)] at hj
      cases hj
      exact h.2.2 (j, adv base b v) List.mem_cons_self
    · rw [List.getElem?_set_ne (fun x => e x.symm)] at hj
      obtain ⟨h1, h2⟩ := lpre_at e hj hw
      refine h.2.2 (j, adv base b w) (List.mem_cons_of_mem _ (List.mem_filter.mpr ⟨asc_mem h1 hw, ?_⟩))
      simp only [adv_cat, Bool.and_eq_true, Bool.not_eq_true', beq_eq_false_iff_ne, ne_eq, Bool.and_eq_false_iff]
      refine ⟨e, e1, ?_⟩
      by_cases q : j + 1 = i
      · exact Or.inr (fun x => h2 ⟨q, x⟩)
      · exact Or.inl q
theorem epd_args (base b : Nat) : ∀ (as : List Value) (off i : Nat) (v : Value), (epd as)[i]? = some v → v ≠ .null → (off + i, adv base b v) ∈ lv_args off (as.map (adv base b)) := by
  intro as
  induction as with
  | nil => intro off i v h; simp [epd] at h
  | cons x t ih =>
    intro off i v h hv
    rw [List.map_cons, lv_args, adv_cat]
    rw [epd] at h
    by_cases c : x.category = 2
    · rw [if_pos c] at h ⊢
      match i, h with
      | 0, h => cases h; exact List.mem_cons_self
      | 1, h => cases h; exact absurd rfl hv
      | i + 2, h =>
        have := ih (off + 2) i v (by simpa using h) hv
        rw [show off + (i + 2) = off + 2 + i by omega]
        exact List.mem_cons_of_mem _ this
    · rw [if_neg c] at h ⊢
      match i, h with
      | 0, h => cases h; exact List.mem_cons_self
      | i + 1, h =>
        have := ih (off + 1) i v (by simpa using h) hv
        rw [show off + (i + 1) = off + 1 + i by omega]
        exact List.mem_cons_of_mem _ this
theorem epd_len (base b : Nat) (as : List Value) : (lg_sl (as.map (adv base b))).length = (epd as).length := by
  induction as with
  | nil => rfl
  | cons x t ih =>
    rw [List.map_cons, lg_sl, List.flatMap_cons, adv_cat, epd]
    rw [lg_sl] at ih
    by_cases c : x.category = 2
    · simp [c, ih]
    · simp [c, ih]
theorem LR.entry {base b : Nat} {Y : MI} {as : List Value} (h : (epd as).length ≤ Y.2.2.2.1) : LR base b (ety Y as) Y.2.2.2.1 ((lg_sl (as.map (adv base b)) ++ List.replicate (Y.2.2.2.1 - (lg_sl (as.map (adv base b))).length) Slot.unset).toArray) := by
  have hh := lv_entry (as.map (adv base b)) (n := Y.2.2.2.1) (by rw [epd_len]; exact h)
  refine ⟨hh.1, hh.2.1, by rw [ety, List.length_append, List.length_replicate]; omega, fun i v hi hv => ?_⟩
  have h1 : (epd as)[i]? = some v := by
    unfold ety at hi
    by_cases q : i < (epd as).length
    · rwa [List.getElem?_append_left q] at hi
    · rw [List.getElem?_append_right (by omega), List.getElem?_replicate] at hi
      split at hi
      · cases hi; exact absurd rfl hv
      · cases hi
  have h2 := epd_args base b as 0 i v h1 hv
  rw [Nat.zero_add] at h2
  exact hh.2.2 _ h2
/-- what a frame has of its machine -/
def Cx (p : Program) (s : State) (m : MethodId) (args : Array Value) (meth : Method) (c : Code) (M : MI) (base b L : Nat) (xs : Nat → Int32) (cy : Nat → ClassId) (D : va_G) : Prop :=
  p.tables.exec = Jvm.exec ∧ c.code = M.2.2.1 ∧ c.maxLocals = M.2.2.2.1 ∧ s.vm.findClass (clsN M.1) = some m.cls ∧ (∀ w ∈ tbw, w.before args s = true) ∧ va_K D vwCl (tysOf cy) s ∧ va_X b L xs s s.heap ∧ b < base ∧ base ≤ s.heap.size ∧ (M.2.1.name = "<init>" → meth.name = "<init>") ∧ M.1 < 13
/-- the heap holds what the small machine says -/
def HR (base L : Nat) (xs : Nat → Int32) (cy : Nat → ClassId) (D : va_G) (s : State) (σ : Sg) (H : Heap) (locs : List Loc) : Prop :=
  va_P D vwCl (wld base cy σ) H ∧ va_S (fun q : Nat => base ≤ q) s.heap H locs ∧ σ.1 ≤ NN ∧ σ.2.2.1 1000 = xs ∧ σ.2.2.1 1001 0 = Int32.ofNat L
theorem W_size {p : Program} {l : Launch} {e : Env} {R : Room} {s : State} {m : MethodId} {args : Array Value} {below : List Frame} {meth : Method} {c : Code} {H : Heap} {locs : List Loc} {cells slots : Nat} {Q : State → Prop} {g : JFrame} (k : H.size ≤ s.heap.size + cells → W p l e R s m args below meth c H locs cells slots Q g) : W p l e R s m args below meth c H locs cells slots Q g :=
  fun T hT X => k (by rw [← hT]; exact X.heapSize) T hT X
theorem wld_size {base : Nat} {cy : Nat → ClassId} {D : va_G} {σ : Sg} {H : Heap} (h : va_P D vwCl (wld base cy σ) H) (hb : base ≤ H.size) : base + σ.1 ≤ H.size := by
  rcases Nat.eq_zero_or_pos σ.1 with e | e
  · omega
  · have := (h (σ.1 - 1) _ (wld_at (by omega))).lt
    simp only at this
    omega
