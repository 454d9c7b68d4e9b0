/-! bits; sets of changed nodes -/
theorem s_l' : ∀ n, n < 32 → ((nI n &&& 31).toBitVec.smod 32).toNat = n := by decide +kernel
theorem b_shr {D j : Nat} (hD : D < 2147483648) (hj : j < 32) : nI D >>> (nI j &&& 31) = nI (D / 2 ^ j) := pk_shrN hD _ j (s_l' j hj)
theorem b_shr6 {D : Nat} (hD : D < 2147483648) : nI D >>> (nI 6 &&& 31) = nI (D / 64) := b_shr hD (by omega)
theorem b_and63 {D : Nat} (hD : D < 2147483648) : nI D &&& nI 63 = nI (D % 64) := pk_andN (by omega) 6 (by decide +kernel)
theorem b_and1 {D : Nat} (hD : D < 2147483648) : nI D &&& nI 1 = nI (D % 2) := pk_andN (by omega) 1 (by decide +kernel)
theorem b_bit {D j : Nat} (hD : D < 2147483648) (hj : j < 32) : nI D >>> (nI j &&& 31) &&& nI 1 = nI (if D.testBit j then 1 else 0) := by
  rw [b_shr hD hj, b_and1 (by have := Nat.div_le_self D (2 ^ j); omega), Nat.testBit_eq_decide_div_mod_eq]
  congr 1
  by_cases h : D / 2 ^ j % 2 = 1
  · rw [h]; rfl
  · rw [if_neg (by simp [h])]; omega
theorem b_orN (a b : Nat) : nI a ||| nI b = nI (a ||| b) := by
  apply Int32.toBitVec_inj.1
  show BitVec.ofNat 32 a ||| BitVec.ofNat 32 b = BitVec.ofNat 32 (a ||| b)
  apply BitVec.eq_of_getLsbD_eq
  intro i hi
  simp [hi]
theorem b_andN (a b : Nat) : nI a &&& nI b = nI (a &&& b) := by
  apply Int32.toBitVec_inj.1
  show BitVec.ofNat 32 a &&& BitVec.ofNat 32 b = BitVec.ofNat 32 (a &&& b)
  apply BitVec.eq_of_getLsbD_eq
  intro i hi
  simp [hi]
theorem b_sh1 : ∀ j, j < 31 → nI 1 <<< (nI j &&& 31) = nI (2 ^ j) := by decide +kernel
/-- bit k of a long -/
def db (x : Int64) (k : Nat) : Bool := x.toBitVec.getLsbD k
theorem wb_c' : ∀ k, k < 64 → (lN k &&& 63) = lN k := by decide +kernel
theorem wb_sm' : ∀ k, k < 64 → ((lN k).toBitVec.smod 64) = BitVec.ofNat 64 k := by decide +kernel
theorem dd_eq (x : Int64) {k : Nat} (hk : k < 64) : (x >>> (lN k &&& 63) &&& lN 1 = lN 0) = (db x k = false) := by
  have e : (x >>> lN k).toBitVec = x.toBitVec.sshiftRight k := by
    rw [Int64.toBitVec_shiftRight, wb_sm' k hk, BitVec.sshiftRight_eq', BitVec.toNat_ofNat, Nat.mod_eq_of_lt (by omega)]
  rw [wb_c' k hk, ← Int64.toBitVec_inj, Int64.toBitVec_and, e]
  apply propext
  unfold db
  show x.toBitVec.sshiftRight k &&& 1#64 = 0#64 ↔ _
  have e0 : (x.toBitVec.sshiftRight k).getLsbD 0 = x.toBitVec.getLsbD k := by
    rw [BitVec.getLsbD_sshiftRight]
    simp [hk]
  constructor
  · intro h
    have t := congrArg (fun x => x.getLsbD 0) h
    rw [← e0]
    simpa using t
  · intro h
    rw [← e0] at h
    apply BitVec.eq_of_getLsbD_eq
    intro i hi
    cases i with
    | zero => rw [BitVec.getLsbD_and, h]; simp
    | succ i => simp
theorem wb_1 : ∀ k, k < 64 → (lN 1 <<< (lN k &&& 63)).toBitVec = BitVec.twoPow 64 k := by decide +kernel
theorem db_set (x : Int64) {k k' : Nat} (hk : k < 64) (hk' : k' < 64) : db (x ||| (lN 1 <<< (lN k &&& 63))) k' = (db x k' || decide (k = k')) := by
  unfold db
  rw [Int64.toBitVec_or, BitVec.getLsbD_or, wb_1 k hk, BitVec.getLsbD_twoPow]
  simp [hk]
theorem db_0 (k : Nat) : db (lN 0) k = false := by
  unfold db
  show (0#64).getLsbD k = false
  simp
/-- how many of the first c bits are set -/
def bc : Nat → Nat → Nat
  | 0, _ => 0
  | c + 1, D => bc c D + (if D.testBit c then 1 else 0)
theorem bc_le (D : Nat) : ∀ c, bc c D ≤ c := by
  intro c
  induction c with
  | zero => exact Nat.le_refl 0
  | succ c ih => unfold bc; split <;> omega
theorem bc_0 : ∀ c, bc c 0 = 0 := by
  intro c
  induction c with
  | zero => rfl
  | succ c ih => unfold bc; rw [ih]; simp
theorem bc_cg {D E : Nat} : ∀ c, (∀ j, j < c → D.testBit j = E.testBit j) → bc c D = bc c E := by
  intro c
  induction c with
  | zero => intro _; rfl
  | succ c ih => intro h; unfold bc; rw [ih (fun j hj => h j (by omega)), h c (by omega)]
theorem tb_or {D j i : Nat} : (D ||| 2 ^ j).testBit i = (D.testBit i || decide (j = i)) := by
  rw [Nat.testBit_or, Nat.testBit_two_pow]
theorem bc_or {D j : Nat} (h : D.testBit j = false) : ∀ c, j < c → bc c (D ||| 2 ^ j) = bc c D + 1 := by
  intro c
  induction c with
  | zero => intro h; omega
  | succ c ih =>
    intro hc
    unfold bc
    by_cases e : j = c
    · subst e
      rw [bc_cg (D := D ||| 2 ^ j) (E := D) j (fun i hi => by rw [tb_or]; simp; omega), tb_or, h]
      simp
    · rw [ih (by omega), tb_or]
      have : decide (j = c) = false := by simp [e]
      rw [this, Bool.or_false]
      omega
theorem bc_none {D : Nat} : ∀ c, bc c D = 0 → ∀ j, j < c → D.testBit j = false := by
  intro c
  induction c with
  | zero => intro _ j hj; omega
  | succ c ih =>
    intro h j hj
    unfold bc at h
    by_cases e : j = c
    · subst e
      cases hb : D.testBit j with
      | false => rfl
      | true => rw [hb] at h; simp at h
    · exact ih (by omega) j (by omega)
theorem bc_every {D : Nat} : ∀ c, bc c D = c → ∀ j, j < c → D.testBit j = true := by
  intro c
  induction c with
  | zero => intro _ j hj; omega
  | succ c ih =>
    intro h j hj
    unfold bc at h
    have hl := bc_le D c
    cases hb : D.testBit c with
    | false => rw [hb] at h; simp at h; omega
    | true =>
      rw [hb] at h
      simp at h
      by_cases e : j = c
      · subst e; exact hb
      · exact ih h j (by omega)
theorem bit_hi {D c j : Nat} (h : D < 2 ^ c) (hj : c ≤ j) : D.testBit j = false := Nat.testBit_lt_two_pow (Nat.lt_of_lt_of_le h (Nat.pow_le_pow_right (by omega) hj))
theorem bc_eq0 {D c : Nat} (hD : D < 2 ^ c) (h : bc c D = 0) : D = 0 := by
  apply Nat.eq_of_testBit_eq
  intro i
  rw [Nat.zero_testBit]
  by_cases e : i < c
  · exact bc_none c h i e
  · exact bit_hi hD (by omega)
theorem bc_eqc {D c : Nat} (hD : D < 2 ^ c) (h : bc c D = c) : D = 2 ^ c - 1 := by
  apply Nat.eq_of_testBit_eq
  intro i
  rw [Nat.testBit_two_pow_sub_one]
  by_cases e : i < c
  · rw [bc_every c h i e]; simp [e]
  · rw [bit_hi hD (by omega)]; simp [e]
theorem bc_all : ∀ c, bc c (2 ^ c - 1) = c := by
  intro c
  have : ∀ k, k ≤ c → bc k (2 ^ c - 1) = k := by
    intro k
    induction k with
    | zero => intro _; rfl
    | succ k ih =>
      intro h
      unfold bc
      rw [ih (by omega), Nat.testBit_two_pow_sub_one]
      simp; omega
  exact this c (Nat.le_refl c)
theorem or_lt {D c j : Nat} (hD : D < 2 ^ c) (hj : j < c) : D ||| 2 ^ j < 2 ^ c := Nat.or_lt_two_pow hD (Nat.pow_lt_pow_right (by omega) hj)
theorem or_gt {D j : Nat} (h : D.testBit j = false) : D < D ||| 2 ^ j := by
  have h1 : D ≤ D ||| 2 ^ j := Nat.left_le_or
  have h2 : D ≠ D ||| 2 ^ j := fun e => by
    have : (D ||| 2 ^ j).testBit j = true := by rw [tb_or]; simp
    rw [← e, h] at this
    cases this
  omega
/-- from D, with m bits missing, the end can be reached over sets that are ok -/
def lead (c : Nat) (ok : Nat → Bool) : Nat → Nat → Bool
  | 0, D => ok D
  | m + 1, D => ok D && (List.range c).any (fun j => !D.testBit j && lead c ok m (D ||| 2 ^ j))
def ld (c : Nat) (ok : Nat → Bool) (D : Nat) : Bool := lead c ok (c - bc c D) D
section
variable {c D : Nat} {ok : Nat → Bool}
theorem ld_end (h : bc c D = c) : ld c ok D = ok D := by
  unfold ld
  rw [h, Nat.sub_self]
  rfl
theorem ld_any (h : bc c D < c) : ld c ok D = (ok D && (List.range c).any (fun j => !D.testBit j && ld c ok (D ||| 2 ^ j))) := by
  have e : c - bc c D = (c - bc c D - 1) + 1 := by omega
  have e2 : ld c ok D = lead c ok ((c - bc c D - 1) + 1) D := by unfold ld; rw [← e]
  rw [e2, lead]
  congr 1
  have : ∀ l : List Nat, (∀ j, j ∈ l → j < c) → l.any (fun j => !D.testBit j && lead c ok (c - bc c D - 1) (D ||| 2 ^ j)) = l.any (fun j => !D.testBit j && ld c ok (D ||| 2 ^ j)) := by
    intro l
    induction l with
    | nil => intro _; rfl
    | cons j l ih =>
      intro hl
      rw [List.any_cons, List.any_cons, ih (fun i hi => hl i (List.mem_cons_of_mem _ hi))]
      congr 1
      cases hb : D.testBit j with
      | true => rfl
      | false =>
        unfold ld
        rw [bc_or hb c (hl j List.mem_cons_self)]
        congr 2
  exact this _ (fun j hj => List.mem_range.mp hj)
theorem ld_ok (h : ok D = false) : ld c ok D = false := by
  by_cases e : bc c D = c
  · rw [ld_end e, h]
  · rw [ld_any (by have := bc_le D c; omega), h]; rfl
theorem ld_none (h : bc c D < c) (hj : ∀ j, j < c → D.testBit j = true ∨ ld c ok (D ||| 2 ^ j) = false) : ld c ok D = false := by
  rw [ld_any h]
  have : (List.range c).any (fun j => !D.testBit j && ld c ok (D ||| 2 ^ j)) = false := by
    rw [List.any_eq_false]
    intro j hm
    rcases hj j (List.mem_range.mp hm) with q | q
    · rw [q]; simp
    · rw [q]; simp
  rw [this, Bool.and_false]
theorem ld_some {j : Nat} (h : bc c D < c) (ho : ok D = true) (hj : j < c) (hb : D.testBit j = false) (hl : ld c ok (D ||| 2 ^ j) = true) : ld c ok D = true := by
  rw [ld_any h, ho, Bool.true_and, List.any_eq_true]
  exact ⟨j, List.mem_range.mpr hj, by rw [hb, hl]; rfl⟩
/-- a first step -/
def isNx (c : Nat) (ok : Nat → Bool) (D j : Nat) : Prop := j < c ∧ D.testBit j = false ∧ ld c ok (D ||| 2 ^ j) = true ∧ ∀ i, i < j → D.testBit i = true ∨ ld c ok (D ||| 2 ^ i) = false
theorem isNx_uni {i j : Nat} (h1 : isNx c ok D i) (h2 : isNx c ok D j) : i = j := by
  obtain ⟨a1, a2, a3, a4⟩ := h1
  obtain ⟨b1, b2, b3, b4⟩ := h2
  by_cases e : i < j
  · rcases b4 i e with q | q
    · rw [a2] at q; cases q
    · rw [a3] at q; cases q
  · by_cases e2 : j < i
    · rcases a4 j e2 with q | q
      · rw [b2] at q; cases q
      · rw [b3] at q; cases q
    · omega
theorem isNx_ex (h : bc c D < c) (hl : ld c ok D = true) : ∃ j, isNx c ok D j := by
  rw [ld_any h, Bool.and_eq_true, List.any_eq_true] at hl
  obtain ⟨-, j, hj, hb⟩ := hl
  obtain ⟨k, ⟨k1, k2, k3⟩, k4⟩ := pk_least (fun j => j < c ∧ D.testBit j = false ∧ ld c ok (D ||| 2 ^ j) = true) ⟨j, List.mem_range.mp hj, by
    cases e : D.testBit j with
    | false => rw [e] at hb; simp at hb; exact ⟨rfl, hb⟩
    | true => rw [e] at hb; simp at hb⟩
  refine ⟨k, k1, k2, k3, fun i hi => ?_⟩
  cases e : D.testBit i with
  | true => exact Or.inl rfl
  | false =>
    cases e2 : ld c ok (D ||| 2 ^ i) with
    | false => exact Or.inr rfl
    | true => exact absurd ⟨by omega, e, e2⟩ (k4 i hi)
/-- f tells the nodes of a first path from D on, the first at place i -/
def isPath (c : Nat) (ok : Nat → Bool) (o : Nat → Nat) (f : Nat → Int32) : Nat → Nat → Nat → Prop
  | 0, _, _ => True
  | m + 1, D, i => ∃ j, isNx c ok D j ∧ f i = nI (o j) ∧ isPath c ok o f m (D ||| 2 ^ j) (i + 1)
theorem isPath_cg {o : Nat → Nat} {f g : Nat → Int32} : ∀ (m D i : Nat), (∀ t, i ≤ t → f t = g t) → isPath c ok o f m D i → isPath c ok o g m D i := by
  intro m
  induction m with
  | zero => intro D i _ _; trivial
  | succ m ih =>
    intro D i h hp
    obtain ⟨j, h1, h2, h3⟩ := hp
    exact ⟨j, h1, by rw [← h i (Nat.le_refl i)]; exact h2, ih _ _ (fun t ht => h t (by omega)) h3⟩
/-- two first paths are one -/
theorem isPath_uni {o : Nat → Nat} {f g : Nat → Int32} : ∀ (m D i : Nat), isPath c ok o f m D i → isPath c ok o g m D i → ∀ t, i ≤ t → t < i + m → ∃ j, j < c ∧ f t = nI (o j) ∧ g t = nI (o j) := by
  intro m
  induction m with
  | zero => intro D i _ _ t h1 h2; omega
  | succ m ih =>
    intro D i hp hq t h1 h2
    obtain ⟨j, a1, a2, a3⟩ := hp
    obtain ⟨k, b1, b2, b3⟩ := hq
    have e := isNx_uni a1 b1
    subst e
    by_cases e : t = i
    · subst e; exact ⟨j, a1.1, a2, b2⟩
    · exact ih _ _ a3 b3 t (by omega) (by omega)
end
