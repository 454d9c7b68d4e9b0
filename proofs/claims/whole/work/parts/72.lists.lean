/-! wishes of a mode, by their last nodes and by their numbers -/
def lsn (V : Tb) (w : Nat) : Nat := if V 0 w = 1 then (if V 2 w < V 3 w then V 3 w else V 2 w) else V 2 w
def wl (V : Tb) (W md n : Nat) : List Nat := (List.range W).filter (fun w => decide (V 1 w = md ∧ lsn V w = n))
def wsN (V : Tb) (W md : Nat) : Nat → List Nat
  | 0 => []
  | n + 1 => wsN V W md n ++ wl V W md n
def wm (V : Tb) (W md : Nat) : List Nat := (List.range W).filter (fun w => decide (V 1 w = md))
def uL (V : Tb) (f : Nat → Rp) (l : List Nat) (b : Nat) : Nat := l.foldl (fun b w => if V 5 w < missP V f w then b ||| 2 ^ w else b) b
def mL (V : Tb) (f : Nat → Rp) (l : List Nat) (m : Nat) : Nat := l.foldl (fun m w => if m < missP V f w then missP V f w else m) m
def sL (V : Tb) (f : Nat → Rp) (l : List Nat) (a : Nat) : Nat := l.foldl (fun a w => a + missP V f w) a
section
variable {V : Tb} {W N md n w : Nat} {f g : Nat → Rp} {l : List Nat}
theorem mem_wl : w ∈ wl V W md n ↔ w < W ∧ V 1 w = md ∧ lsn V w = n := by
  unfold wl
  simp [List.mem_filter]
theorem mem_wm : w ∈ wm V W md ↔ w < W ∧ V 1 w = md := by
  unfold wm
  simp [List.mem_filter]
theorem mem_wsN : ∀ n, w ∈ wsN V W md n ↔ w < W ∧ V 1 w = md ∧ lsn V w < n := by
  intro n
  induction n with
  | zero => simp [wsN]
  | succ n ih =>
    rw [wsN, List.mem_append, ih, mem_wl]
    constructor
    · rintro (⟨a, b, c⟩ | ⟨a, b, c⟩)
      · exact ⟨a, b, by omega⟩
      · exact ⟨a, b, by omega⟩
    · rintro ⟨a, b, c⟩
      by_cases e : lsn V w = n
      · exact Or.inr ⟨a, b, e⟩
      · exact Or.inl ⟨a, b, by omega⟩
theorem lsn_lt (A6 : wishW N W V) (hw : w < W) : lsn V w < N := by
  obtain ⟨w0, w1, w2, w3, w4⟩ := A6.2 w hw
  unfold lsn
  by_cases e : V 0 w = 1
  · have := (w4 e).1
    rw [if_pos e]
    split <;> omega
  · rw [if_neg e]; exact w2
theorem mem_all (A6 : wishW N W V) : w ∈ wsN V W md N ↔ w ∈ wm V W md := by
  rw [mem_wsN, mem_wm]
  constructor
  · rintro ⟨a, b, -⟩; exact ⟨a, b⟩
  · rintro ⟨a, b⟩; exact ⟨a, b, lsn_lt A6 a⟩
/-- a miss hangs on rates up to the wish's last node alone -/
theorem miss_loc (h : ∀ m, m ≤ lsn V w → f m = g m) : missP V f w = missP V g w := by
  unfold lsn at h
  unfold missP
  by_cases e : V 0 w = 1
  · rw [if_pos e] at h
    have h2 : f (V 2 w) = g (V 2 w) := h _ (by split <;> omega)
    have h3 : f (V 3 w) = g (V 3 w) := h _ (by split <;> omega)
    rw [if_pos e, if_pos e, h2, h3]
  · rw [if_neg e] at h
    have h2 : f (V 2 w) = g (V 2 w) := h _ (by omega)
    rw [if_neg e, if_neg e, h2]
theorem uL_cg : ∀ (l : List Nat) (b : Nat), (∀ w, w ∈ l → missP V f w = missP V g w) → uL V f l b = uL V g l b := by
  intro l
  induction l with
  | nil => intro b _; rfl
  | cons w l ih =>
    intro b h
    unfold uL at ih ⊢
    rw [List.foldl_cons, List.foldl_cons, h w List.mem_cons_self]
    exact ih _ (fun u hu => h u (List.mem_cons_of_mem _ hu))
theorem mL_cg : ∀ (l : List Nat) (b : Nat), (∀ w, w ∈ l → missP V f w = missP V g w) → mL V f l b = mL V g l b := by
  intro l
  induction l with
  | nil => intro b _; rfl
  | cons w l ih =>
    intro b h
    unfold mL at ih ⊢
    rw [List.foldl_cons, List.foldl_cons, h w List.mem_cons_self]
    exact ih _ (fun u hu => h u (List.mem_cons_of_mem _ hu))
theorem sL_cg : ∀ (l : List Nat) (b : Nat), (∀ w, w ∈ l → missP V f w = missP V g w) → sL V f l b = sL V g l b := by
  intro l
  induction l with
  | nil => intro b _; rfl
  | cons w l ih =>
    intro b h
    unfold sL at ih ⊢
    rw [List.foldl_cons, List.foldl_cons, h w List.mem_cons_self]
    exact ih _ (fun u hu => h u (List.mem_cons_of_mem _ hu))
theorem uL_app {k : List Nat} {b : Nat} : uL V f (l ++ k) b = uL V f k (uL V f l b) := by unfold uL; rw [List.foldl_append]
theorem mL_app {k : List Nat} {b : Nat} : mL V f (l ++ k) b = mL V f k (mL V f l b) := by unfold mL; rw [List.foldl_append]
theorem sL_app {k : List Nat} {b : Nat} : sL V f (l ++ k) b = sL V f k (sL V f l b) := by unfold sL; rw [List.foldl_append]
theorem uL_bit {i : Nat} : ∀ (l : List Nat) (b : Nat), (uL V f l b).testBit i = (b.testBit i || decide (i ∈ l ∧ V 5 i < missP V f i)) := by
  intro l
  induction l with
  | nil => intro b; simp [uL]
  | cons w l ih =>
    intro b
    have e : uL V f (w :: l) b = uL V f l (if V 5 w < missP V f w then b ||| 2 ^ w else b) := rfl
    rw [e, ih]
    by_cases h : V 5 w < missP V f w
    · rw [if_pos h, tb_or]
      by_cases q : w = i
      · subst q; simp [h]
      · have q' : ¬ i = w := fun z => q z.symm
        simp [q, q']
    · rw [if_neg h]
      by_cases q : i = w
      · subst q; simp [h]
      · simp [q]
theorem uL_0 : uL V f l 0 = 0 ↔ ∀ w, w ∈ l → missP V f w ≤ V 5 w := by
  constructor
  · intro h w hw
    have := uL_bit (V := V) (f := f) (i := w) l 0
    rw [h] at this
    simp [hw] at this
    exact this
  · intro h
    apply Nat.eq_of_testBit_eq
    intro i
    rw [uL_bit, Nat.zero_testBit]
    simp
    intro hi
    exact h i hi
theorem uL_lt : ∀ (l : List Nat) (b : Nat), (∀ w, w ∈ l → w < 12) → b < 4096 → uL V f l b < 4096 := by
  intro l
  induction l with
  | nil => intro b _ h; exact h
  | cons w l ih =>
    intro b h hb
    have e : uL V f (w :: l) b = uL V f l (if V 5 w < missP V f w then b ||| 2 ^ w else b) := rfl
    rw [e]
    refine ih _ (fun u hu => h u (List.mem_cons_of_mem _ hu)) ?_
    have hw := h w List.mem_cons_self
    split
    · exact or_lt (c := 12) hb hw
    · exact hb
theorem mL_le {x : Nat} : ∀ (l : List Nat) (b : Nat), mL V f l b ≤ x ↔ b ≤ x ∧ ∀ w, w ∈ l → missP V f w ≤ x := by
  intro l
  induction l with
  | nil => intro b; simp [mL]
  | cons w l ih =>
    intro b
    have e : mL V f (w :: l) b = mL V f l (if b < missP V f w then missP V f w else b) := rfl
    rw [e, ih]
    constructor
    · rintro ⟨h1, h2⟩
      split at h1
      · refine ⟨by omega, fun u hu => ?_⟩
        rcases List.mem_cons.mp hu with rfl | q
        · exact h1
        · exact h2 u q
      · refine ⟨h1, fun u hu => ?_⟩
        rcases List.mem_cons.mp hu with rfl | q
        · omega
        · exact h2 u q
    · rintro ⟨h1, h2⟩
      have := h2 w List.mem_cons_self
      refine ⟨by split <;> omega, fun u hu => h2 u (List.mem_cons_of_mem _ hu)⟩
theorem mL_mem {k : List Nat} {b : Nat} (h : ∀ w, w ∈ l ↔ w ∈ k) : mL V f l b = mL V f k b := by
  apply Nat.le_antisymm
  · rw [mL_le]
    have := (mL_le (x := mL V f k b) (V := V) (f := f) k b).mp (Nat.le_refl _)
    exact ⟨this.1, fun w hw => this.2 w ((h w).mp hw)⟩
  · rw [mL_le]
    have := (mL_le (x := mL V f l b) (V := V) (f := f) l b).mp (Nat.le_refl _)
    exact ⟨this.1, fun w hw => this.2 w ((h w).mpr hw)⟩
theorem mL_mil : mL V f l 0 ≤ 1000000 := by
  rw [mL_le]
  exact ⟨by omega, fun w _ => missP_le⟩
theorem sL_add : ∀ (l : List Nat) (a : Nat), sL V f l a = a + sL V f l 0 := by
  intro l
  induction l with
  | nil => intro a; rfl
  | cons w l ih =>
    intro a
    have e : ∀ b, sL V f (w :: l) b = sL V f l (b + missP V f w) := fun _ => rfl
    rw [e, e, ih, ih (0 + missP V f w)]
    omega
theorem sL_split (p q : Nat → Bool) : ∀ l : List Nat, (∀ w, p w = true → q w = false) → sL V f (l.filter (fun w => p w || q w)) 0 = sL V f (l.filter p) 0 + sL V f (l.filter q) 0 := by
  intro l
  induction l with
  | nil => intro _; rfl
  | cons w l ih =>
    intro h
    have ih' := ih h
    have e : ∀ k : List Nat, sL V f (w :: k) 0 = missP V f w + sL V f k 0 := fun k => by
      have : sL V f (w :: k) 0 = sL V f k (0 + missP V f w) := rfl
      rw [this, sL_add]; omega
    cases hp : p w with
    | true =>
      have hq := h w hp
      rw [List.filter_cons_of_pos (by rw [hp]; rfl), List.filter_cons_of_pos hp, List.filter_cons_of_neg (by rw [hq]; decide), e, e, ih']
      omega
    | false =>
      cases hq : q w with
      | true =>
        rw [List.filter_cons_of_pos (by rw [hp, hq]; rfl), List.filter_cons_of_neg (by rw [hp]; decide), List.filter_cons_of_pos hq, e, e, ih']
        omega
      | false =>
        rw [List.filter_cons_of_neg (by rw [hp, hq]; decide), List.filter_cons_of_neg (by rw [hp]; decide), List.filter_cons_of_neg (by rw [hq]; decide), ih']
theorem sL_wsN : ∀ n, sL V f (wsN V W md n) 0 = sL V f ((List.range W).filter (fun w => decide (V 1 w = md ∧ lsn V w < n))) 0 := by
  intro n
  induction n with
  | zero =>
    have : (List.range W).filter (fun w => decide (V 1 w = md ∧ lsn V w < 0)) = [] := by
      rw [List.filter_eq_nil_iff]
      intro a _
      simp
    rw [this]
    rfl
  | succ n ih =>
    rw [wsN, sL_app, sL_add, ih, wl, ← sL_split (fun w => decide (V 1 w = md ∧ lsn V w < n)) (fun w => decide (V 1 w = md ∧ lsn V w = n)) (List.range W) (fun w h => by
      have := of_decide_eq_true h
      simp
      intro _
      omega)]
    congr 2
    funext w
    rw [Bool.eq_iff_iff]
    simp
    constructor
    · rintro (⟨a, b⟩ | ⟨a, b⟩)
      · exact ⟨a, by omega⟩
      · exact ⟨a, by omega⟩
    · rintro ⟨a, b⟩
      by_cases e : lsn V w = n
      · exact Or.inr ⟨a, e⟩
      · exact Or.inl ⟨a, by omega⟩
theorem sL_all (A6 : wishW N W V) : sL V f (wsN V W md N) 0 = sL V f (wm V W md) 0 := by
  rw [sL_wsN]
  congr 1
  unfold wm
  refine List.filter_congr (fun w hw => ?_)
  rw [decide_eq_decide]
  have := lsn_lt A6 (List.mem_range.mp hw)
  constructor
  · exact fun h => h.1
  · exact fun h => ⟨h, this⟩
theorem sL_le : ∀ (l : List Nat) (a : Nat), sL V f l a ≤ a + 1000000 * l.length := by
  intro l
  induction l with
  | nil => intro a; exact Nat.le_refl _
  | cons w l ih =>
    intro a
    have e : sL V f (w :: l) a = sL V f l (a + missP V f w) := rfl
    have h1 := ih (a + missP V f w)
    have h2 := missP_le (V := V) (f := f) (w := w)
    rw [e, List.length_cons]
    omega
theorem wm_len : (wm V W md).length ≤ W := by
  unfold wm
  refine Nat.le_trans (List.length_filter_le _ _) ?_
  rw [List.length_range]
  exact Nat.le_refl W
end
