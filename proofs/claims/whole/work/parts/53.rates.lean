/-! rates: the pure picture; (0, 0) is BEYOND -/
abbrev Rp : Type := Nat × Nat
def mkR (a b : Nat) : Rp := if 1000000000 < a ∨ 1000000000 < b then (0, 0) else (a, b)
def calC (T : Tb) (f : Nat → Rp) (n s : Nat) : Rp :=
  if T 0 n = 1 then mkR ((f (T 1 n)).1 * (s / Nat.gcd (f (T 1 n)).2 s)) ((f (T 1 n)).2 / Nat.gcd (f (T 1 n)).2 s)
  else if T 0 n = 2 then mkR ((f (T 1 n)).1 / Nat.gcd (f (T 1 n)).1 s) ((f (T 1 n)).2 * (s / Nat.gcd (f (T 1 n)).1 s))
  else if T 0 n = 3 then f (if s = 0 then T 1 n else T 2 n)
  else if T 0 n = 4 then (if s = 0 then (0, 1) else f (T 1 n))
  else (T 5 n, 1)
/-- .. as the reference has it: (_, 0) is BEYOND -/
def becR (a b : Nat) : Rp := if 1000000000 < a / Nat.gcd a b ∨ 1000000000 < b / Nat.gcd a b then (a / Nat.gcd a b, 0) else (a / Nat.gcd a b, b / Nat.gcd a b)
def calM (T : Tb) (f : Nat → Rp) (n s : Nat) : Rp :=
  if T 0 n = 0 then (T 5 n, 1) else if T 0 n = 4 ∧ s = 0 then (0, 1) else if T 0 n = 3 ∧ s = 1 then f (T 2 n)
  else if 3 ≤ T 0 n ∨ (f (T 1 n)).2 = 0 then f (T 1 n)
  else if T 0 n = 1 then becR ((f (T 1 n)).1 * s) (f (T 1 n)).2 else becR (f (T 1 n)).1 ((f (T 1 n)).2 * s)
def rtsG (cal : (Nat → Rp) → Nat → Rp) : Nat → Nat → Rp
  | 0 => fun _ => (0, 0)
  | n + 1 => fun m => if m = n then cal (rtsG cal n) n else rtsG cal n m
def rtG (cal : (Nat → Rp) → Nat → Rp) (n : Nat) : Rp := rtsG cal (n + 1) n
theorem rtsG_eq (cal : (Nat → Rp) → Nat → Rp) : ∀ (n m : Nat), m < n → rtsG cal n m = rtG cal m := by
  intro n
  induction n with
  | zero => intro m h; omega
  | succ n ih =>
    intro m h
    by_cases e : m = n
    · subst e; rfl
    · show (if m = n then cal (rtsG cal n) n else rtsG cal n m) = _
      rw [if_neg e]; exact ih m (by omega)
theorem rtG_eq (cal : (Nat → Rp) → Nat → Rp) (n : Nat) (h : ∀ f g : Nat → Rp, (∀ m, m < n → f m = g m) → cal f n = cal g n) : rtG cal n = cal (rtG cal) n := by
  show (if n = n then cal (rtsG cal n) n else rtsG cal n n) = _
  rw [if_pos rfl]
  exact h _ _ (fun m hm => rtsG_eq cal n m hm)
def rt (T : Tb) (r : Nat → Nat) : Nat → Rp := rtG (fun f n => calC T f n (r n))
def rtM (T : Tb) (r : Nat → Nat) : Nat → Rp := rtG (fun f n => calM T f n (r n))
section
variable {T : Tb} {N n : Nat} {r r' : Nat → Nat} {f g : Nat → Rp}
theorem calC_cg (w : nodeW N T) (hn : n < N) (s : Nat) (h : ∀ m, m < n → f m = g m) : calC T f n s = calC T g n s := by
  obtain ⟨w0, w1, w2, -⟩ := w.2 n hn
  unfold calC
  by_cases k1 : T 0 n = 1
  · rw [if_pos k1, if_pos k1, h _ (w1 (by omega))]
  · by_cases k2 : T 0 n = 2
    · rw [if_neg k1, if_neg k1, if_pos k2, if_pos k2, h _ (w1 (by omega))]
    · by_cases k3 : T 0 n = 3
      · rw [if_neg k1, if_neg k1, if_neg k2, if_neg k2, if_pos k3, if_pos k3]
        by_cases e : s = 0
        · rw [if_pos e]; exact h _ (w1 (by omega))
        · rw [if_neg e]; exact h _ (w2 k3)
      · rw [if_neg k1, if_neg k1, if_neg k2, if_neg k2, if_neg k3, if_neg k3]
        by_cases k4 : T 0 n = 4
        · rw [if_pos k4, if_pos k4, h _ (w1 (by omega))]
        · rw [if_neg k4, if_neg k4]
theorem calM_cg (w : nodeW N T) (hn : n < N) (s : Nat) (h : ∀ m, m < n → f m = g m) : calM T f n s = calM T g n s := by
  obtain ⟨w0, w1, w2, -⟩ := w.2 n hn
  unfold calM
  by_cases k0 : T 0 n = 0
  · rw [if_pos k0, if_pos k0]
  · rw [if_neg k0, if_neg k0, h _ (w1 k0)]
    by_cases k3 : T 0 n = 3
    · rw [h _ (w2 k3)]
    · have k3' : ¬ (T 0 n = 3 ∧ s = 1) := fun q => k3 q.1
      rw [if_neg k3', if_neg k3']
theorem rt_eq (w : nodeW N T) (hn : n < N) : rt T r n = calC T (rt T r) n (r n) := rtG_eq _ n (fun _ _ h => calC_cg w hn (r n) h)
theorem rtM_eq (w : nodeW N T) (hn : n < N) : rtM T r n = calM T (rtM T r) n (r n) := rtG_eq _ n (fun _ _ h => calM_cg w hn (r n) h)
/-- a rate hangs on settings up to its node alone -/
theorem rt_loc (w : nodeW N T) : ∀ (n : Nat), n < N → (∀ m, m ≤ n → r m = r' m) → rt T r n = rt T r' n := by
  intro n
  induction n using Nat.strongRecOn with
  | ind n ih =>
    intro hn h
    rw [rt_eq w hn, rt_eq w hn, h n (Nat.le_refl n)]
    exact calC_cg w hn _ (fun m hm => ih m hm (by omega) (fun q hq => h q (by omega)))
/-- least terms -/
def okR (p : Rp) : Prop := p = (0, 0) ∨ (0 < p.2 ∧ p.1 ≤ 1000000000 ∧ p.2 ≤ 1000000000 ∧ Nat.gcd p.1 p.2 = 1)
theorem mkR_ok {a b : Nat} (hb : 0 < b) (hg : Nat.gcd a b = 1) : okR (mkR a b) := by
  unfold mkR okR
  by_cases h : 1000000000 < a ∨ 1000000000 < b
  · rw [if_pos h]; exact Or.inl rfl
  · rw [if_neg h]; exact Or.inr ⟨hb, by simp only; omega, by simp only; omega, hg⟩
theorem okR_le {p : Rp} (h : okR p) : p.1 ≤ 1000000000 ∧ p.2 ≤ 1000000000 := by
  rcases h with rfl | ⟨-, h1, h2, -⟩
  · exact ⟨Nat.zero_le _, Nat.zero_le _⟩
  · exact ⟨h1, h2⟩
theorem mkR_self {p : Rp} (h : okR p) : mkR p.1 p.2 = p := by
  unfold mkR
  rw [if_neg (by have := okR_le h; omega)]
theorem mul_ok {p : Rp} {s : Nat} (h : okR p) (hs : 0 < s) : okR (mkR (p.1 * (s / Nat.gcd p.2 s)) (p.2 / Nat.gcd p.2 s)) := by
  rcases h with rfl | ⟨h0, h1, h2, h3⟩
  · simp [mkR, okR]
  · have g0 : 0 < Nat.gcd p.2 s := Nat.gcd_pos_of_pos_left _ h0
    refine mkR_ok (Nat.div_pos (Nat.le_of_dvd h0 (Nat.gcd_dvd_left _ _)) g0) ?_
    have c1 : Nat.Coprime p.1 (p.2 / Nat.gcd p.2 s) := Nat.Coprime.coprime_div_right h3 (Nat.gcd_dvd_left _ _)
    have c2 : Nat.Coprime (s / Nat.gcd p.2 s) (p.2 / Nat.gcd p.2 s) := (Nat.coprime_div_gcd_div_gcd g0).symm
    exact Nat.Coprime.mul_left c1 c2
theorem div_ok {p : Rp} {s : Nat} (h : okR p) (hs : 0 < s) : okR (mkR (p.1 / Nat.gcd p.1 s) (p.2 * (s / Nat.gcd p.1 s))) := by
  rcases h with rfl | ⟨h0, h1, h2, h3⟩
  · simp [mkR, okR]
  · have g0 : 0 < Nat.gcd p.1 s := Nat.gcd_pos_of_pos_right _ hs
    refine mkR_ok (Nat.mul_pos h0 (Nat.div_pos (Nat.le_of_dvd hs (Nat.gcd_dvd_right _ _)) g0)) ?_
    have c1 : Nat.Coprime (p.1 / Nat.gcd p.1 s) p.2 := Nat.Coprime.coprime_div_left h3 (Nat.gcd_dvd_left _ _)
    have c2 : Nat.Coprime (p.1 / Nat.gcd p.1 s) (s / Nat.gcd p.1 s) := Nat.coprime_div_gcd_div_gcd g0
    exact Nat.Coprime.mul_right c1 c2
def rowW (N : Nat) (T : Tb) (r : Nat → Nat) : Prop := ∀ n, n < N → T 3 n ≤ r n ∧ r n ≤ T 4 n
theorem calC_ok (w : nodeW N T) (hn : n < N) {s : Nat} (hs : T 3 n ≤ s ∧ s ≤ T 4 n) (h : ∀ m, m < n → okR (f m)) : okR (calC T f n s) := by
  obtain ⟨w0, w1, w2, w3, w4, w5, -⟩ := w.2 n hn
  unfold calC
  by_cases k1 : T 0 n = 1
  · rw [if_pos k1]; exact mul_ok (h _ (w1 (by omega))) (by have := w4 (by omega); omega)
  · by_cases k2 : T 0 n = 2
    · rw [if_neg k1, if_pos k2]; exact div_ok (h _ (w1 (by omega))) (by have := w4 (by omega); omega)
    · by_cases k3 : T 0 n = 3
      · rw [if_neg k1, if_neg k2, if_pos k3]
        by_cases e : s = 0
        · rw [if_pos e]; exact h _ (w1 (by omega))
        · rw [if_neg e]; exact h _ (w2 k3)
      · rw [if_neg k1, if_neg k2, if_neg k3]
        by_cases k4 : T 0 n = 4
        · rw [if_pos k4]
          by_cases e : s = 0
          · rw [if_pos e]; exact Or.inr ⟨by decide, by decide, by decide, by decide⟩
          · rw [if_neg e]; exact h _ (w1 (by omega))
        · rw [if_neg k4]
          have := w3 (by omega)
          exact Or.inr ⟨by simp only; omega, by simp only; omega, by simp only; omega, Nat.gcd_one_right _⟩
theorem rt_okN (w : nodeW N T) : ∀ (n : Nat), n < N → (∀ m, m ≤ n → T 3 m ≤ r m ∧ r m ≤ T 4 m) → okR (rt T r n) := by
  intro n
  induction n using Nat.strongRecOn with
  | ind n ih =>
    intro hn hr
    rw [rt_eq w hn]
    exact calC_ok w hn (hr n (Nat.le_refl n)) (fun m hm => ih m hm (by omega) (fun q hq => hr q (by omega)))
theorem rt_ok (w : nodeW N T) (hr : rowW N T r) (hn : n < N) : okR (rt T r n) := rt_okN w n hn (fun m hm => hr m (by omega))
/-- the reference's rate beside the class's -/
def simR (p q : Rp) : Prop := q.2 = p.2 ∧ (p.2 ≠ 0 → q.1 = p.1)
theorem becR_mul {p : Rp} {s : Nat} (h0 : 0 < p.2) (h3 : Nat.gcd p.1 p.2 = 1) : simR (mkR (p.1 * (s / Nat.gcd p.2 s)) (p.2 / Nat.gcd p.2 s)) (becR (p.1 * s) p.2) := by
  have e : Nat.gcd (p.1 * s) p.2 = Nat.gcd p.2 s := by
    rw [Nat.Coprime.gcd_mul_left_cancel s h3, Nat.gcd_comm]
  unfold becR mkR
  rw [e, Nat.mul_div_assoc _ (Nat.gcd_dvd_right p.2 s)]
  by_cases h : 1000000000 < p.1 * (s / Nat.gcd p.2 s) ∨ 1000000000 < p.2 / Nat.gcd p.2 s
  · rw [if_pos h, if_pos h]; exact ⟨rfl, fun q => absurd rfl q⟩
  · rw [if_neg h, if_neg h]; exact ⟨rfl, fun _ => rfl⟩
theorem becR_div {p : Rp} {s : Nat} (h3 : Nat.gcd p.1 p.2 = 1) : simR (mkR (p.1 / Nat.gcd p.1 s) (p.2 * (s / Nat.gcd p.1 s))) (becR p.1 (p.2 * s)) := by
  have e : Nat.gcd p.1 (p.2 * s) = Nat.gcd p.1 s := by
    rw [Nat.gcd_comm, Nat.Coprime.gcd_mul_left_cancel s (Nat.Coprime.symm h3), Nat.gcd_comm]
  unfold becR mkR
  rw [e, Nat.mul_div_assoc _ (Nat.gcd_dvd_right p.1 s)]
  by_cases h : 1000000000 < p.1 / Nat.gcd p.1 s ∨ 1000000000 < p.2 * (s / Nat.gcd p.1 s)
  · rw [if_pos h, if_pos h]; exact ⟨rfl, fun q => absurd rfl q⟩
  · rw [if_neg h, if_neg h]; exact ⟨rfl, fun _ => rfl⟩
theorem cal_sim (w : nodeW N T) (hn : n < N) {s : Nat} (hs : T 3 n ≤ s ∧ s ≤ T 4 n) (h : ∀ m, m < n → okR (f m)) (hg : ∀ m, m < n → simR (f m) (g m)) : simR (calC T f n s) (calM T g n s) := by
  obtain ⟨w0, w1, w2, w3, w4, w5, -⟩ := w.2 n hn
  unfold calC calM
  by_cases k0 : T 0 n = 0
  · rw [if_pos k0, if_neg (by omega), if_neg (by omega), if_neg (by omega), if_neg (by omega)]; exact ⟨rfl, fun _ => rfl⟩
  rw [if_neg k0]
  have l1 := w1 k0
  obtain ⟨s1, s2⟩ := hg _ l1
  by_cases k1 : T 0 n = 1
  · rw [if_pos k1, if_neg (by omega), if_neg (by omega)]
    rcases h _ l1 with e | ⟨h0, h1, h2, h3⟩
    · rw [if_pos (Or.inr (by rw [s1, e])), e]
      refine ⟨by rw [s1, e]; simp [mkR], fun q => ?_⟩
      simp [mkR] at q
    · rw [if_neg (by rw [s1]; omega), if_pos k1, s1, s2 (by omega)]
      exact becR_mul h0 h3
  · by_cases k2 : T 0 n = 2
    · rw [if_neg k1, if_pos k2, if_neg (by omega), if_neg (by omega)]
      rcases h _ l1 with e | ⟨h0, h1, h2, h3⟩
      · rw [if_pos (Or.inr (by rw [s1, e])), e]
        refine ⟨by rw [s1, e]; simp [mkR], fun q => ?_⟩
        simp [mkR] at q
      · rw [if_neg (by rw [s1]; omega), if_neg k1, s1, s2 (by omega)]
        exact becR_div h3
    · by_cases k3 : T 0 n = 3
      · rw [if_neg k1, if_neg k2, if_pos k3, if_neg (show ¬ (T 0 n = 4 ∧ s = 0) by omega)]
        have q5 := w5 (by omega)
        by_cases e : s = 0
        · rw [if_pos e, if_neg (show ¬ (T 0 n = 3 ∧ s = 1) by omega), if_pos (Or.inl (by omega))]; exact hg _ l1
        · rw [if_neg e, if_pos (show T 0 n = 3 ∧ s = 1 by omega)]; exact hg _ (w2 k3)
      · have k4 : T 0 n = 4 := by omega
        rw [if_neg k1, if_neg k2, if_neg k3, if_pos k4]
        by_cases e : s = 0
        · rw [if_pos e, if_pos ⟨k4, e⟩]; exact ⟨rfl, fun _ => rfl⟩
        · rw [if_neg e, if_neg (show ¬ (T 0 n = 4 ∧ s = 0) by omega), if_neg (show ¬ (T 0 n = 3 ∧ s = 1) by omega), if_pos (Or.inl (by omega))]; exact hg _ l1
theorem rt_sim (w : nodeW N T) (hr : rowW N T r) : ∀ (n : Nat), n < N → simR (rt T r n) (rtM T r n) := by
  intro n
  induction n using Nat.strongRecOn with
  | ind n ih =>
    intro hn
    rw [rt_eq w hn, rtM_eq w hn]
    exact cal_sim w hn (hr n hn) (fun m hm => rt_ok w hr (by omega)) (fun m hm => ih m hm (by omega))
end
/-- two rows of longs filled from k to n -/
def ry (L : Nat → Nat → Int64) (A B : Nat) (f : Nat → Rp) (k n : Nat) : Nat → Nat → Int64 := fun q j => if k ≤ j ∧ j < n then (if q = A then lN (f j).1 else if q = B then lN (f j).2 else L q j) else L q j
section
variable {L : Nat → Nat → Int64} {A B k n q j : Nat} {f : Nat → Rp}
theorem ry_end : ry L A B f n n = L := by
  funext q j
  unfold ry
  rw [if_neg (by omega)]
theorem ry_step (hAB : A ≠ B) (h : k < n) : ry (up2L (up2L L A k (lN (f k).1)) B k (lN (f k).2)) A B f (k + 1) n = ry L A B f k n := by
  funext q j
  unfold ry
  by_cases e : j = k
  · subst e
    rw [if_neg (by omega), if_pos (by omega)]
    by_cases e1 : q = A
    · subst e1; rw [if_pos rfl, v_ok hAB, v_same1]
    · rw [if_neg e1]
      by_cases e2 : q = B
      · subst e2; rw [if_pos rfl, v_same1]
      · rw [if_neg e2, v_ok e2, v_ok e1]
  · have e3 : up2L (up2L L A k (lN (f k).1)) B k (lN (f k).2) q j = L q j := by
      simp only [up2L_at]
      rw [if_neg (by omega), if_neg (by omega)]
    rw [e3]
    by_cases e4 : k + 1 ≤ j ∧ j < n
    · rw [if_pos e4, if_pos (show k ≤ j ∧ j < n by omega)]
    · rw [if_neg e4, if_neg (show ¬ (k ≤ j ∧ j < n) by omega)]
theorem ry_a (h1 : k ≤ j) (h2 : j < n) : ry L A B f k n A j = lN (f j).1 := by
  unfold ry; rw [if_pos ⟨h1, h2⟩, if_pos rfl]
theorem ry_b (hAB : A ≠ B) (h1 : k ≤ j) (h2 : j < n) : ry L A B f k n B j = lN (f j).2 := by
  unfold ry; rw [if_pos ⟨h1, h2⟩, if_neg (Ne.symm hAB), if_pos rfl]
theorem ry_q (h1 : q ≠ A) (h2 : q ≠ B) : ry L A B f k n q = L q := by
  funext j
  unfold ry
  rw [if_neg h1, if_neg h2]
  by_cases e : k ≤ j ∧ j < n
  · rw [if_pos e]
  · rw [if_neg e]
theorem ry_j (h : j < k) : ry L A B f k n q j = L q j := by
  unfold ry; rw [if_neg (by omega)]
end
