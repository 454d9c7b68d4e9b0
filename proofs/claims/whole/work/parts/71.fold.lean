/-! all rows of settings, the first node's going slowest -/
def lo (T : Tb) (n : Nat) : Nat := if T 8 n = 0 then T 3 n else T 9 n
def hi (T : Tb) (n : Nat) : Nat := if T 8 n = 0 then T 4 n else T 9 n
def sz (T : Tb) (n : Nat) : Nat := hi T n - lo T n + 1
def ur (r : Nat → Nat) (n v : Nat) : Nat → Nat := fun m => if m = n then v else r m
def frD {S : Type} (T : Tb) (stp : S → (Nat → Nat) → S) : Nat → Nat → (Nat → Nat) → S → S
  | 0, _, r, s => stp s r
  | k + 1, n, r, s => (List.range' (lo T n) (sz T n)).foldl (fun s v => frD T stp k (n + 1) (ur r n v) s) s
theorem ur_eq {r : Nat → Nat} {n v : Nat} : ur r n v n = v := if_pos rfl
theorem ur_ne {r : Nat → Nat} {n v m : Nat} (h : m ≠ n) : ur r n v m = r m := if_neg h
theorem ur_ur {r : Nat → Nat} {n v u : Nat} : ur (ur r n v) n u = ur r n u := by
  funext m
  unfold ur
  by_cases e : m = n
  · rw [if_pos e, if_pos e]
  · rw [if_neg e, if_neg e, if_neg e]
theorem ur_self {r : Nat → Nat} {n v : Nat} (h : r n = v) : ur r n v = r := by
  funext m
  unfold ur
  by_cases e : m = n
  · rw [if_pos e, e, h]
  · rw [if_neg e]
theorem foldl_id {S : Type} (g : S → Nat → S) (s : S) : ∀ l : List Nat, (∀ v, v ∈ l → g s v = s) → l.foldl g s = s := by
  intro l
  induction l with
  | nil => intro _; rfl
  | cons v l ih =>
    intro h
    rw [List.foldl_cons, h v List.mem_cons_self]
    exact ih (fun u hu => h u (List.mem_cons_of_mem _ hu))
/-- a beginning that changes nothing -/
theorem frD_id {S : Type} {T : Tb} {stp : S → (Nat → Nat) → S} {s : S} : ∀ (k n : Nat) (r : Nat → Nat), (∀ r', (∀ m, m < n → r' m = r m) → stp s r' = s) → frD T stp k n r s = s := by
  intro k
  induction k with
  | zero => intro n r h; exact h r (fun _ _ => rfl)
  | succ k ih =>
    intro n r h
    rw [frD]
    refine foldl_id _ _ _ (fun v _ => ih (n + 1) (ur r n v) (fun r' hr => h r' (fun m hm => ?_)))
    rw [hr m (by omega), ur_ne (by omega)]
/-- the next row -/
def nx (T : Tb) : Nat → (Nat → Nat) → Option (Nat → Nat)
  | 0, _ => none
  | n + 1, r => if T 8 n = 0 then (if r n < T 4 n then some (ur r n (r n + 1)) else nx T n (ur r n (T 3 n))) else nx T n r
def cnD (T : Tb) : Nat → Nat → Nat
  | 0, _ => 1
  | k + 1, n => sz T n * cnD T k (n + 1)
theorem cnD_pos {T : Tb} : ∀ k n, 1 ≤ cnD T k n := by
  intro k
  induction k with
  | zero => intro n; exact Nat.le_refl 1
  | succ k ih => intro n; rw [cnD]; exact Nat.mul_pos (by unfold sz; omega) (ih (n + 1))
section
variable {S : Type} {T : Tb} {N : Nat} {stp : S → (Nat → Nat) → S}
def Cont (G : S → (Nat → Nat) → Nat → Prop) (E : S → Nat → Prop) (o : Option (Nat → Nat)) (s : S) (t : Nat) : Prop := match o with
  | some r => G s r (t + 1)
  | none => E s t
theorem walk (w : nodeW N T) (G : S → (Nat → Nat) → Nat → Prop) (E : S → Nat → Prop)
    (one : ∀ s r t, rowW N T r → (∀ m, m < N → T 8 m ≠ 0 → r m = T 9 m) → Cont G E (nx T N r) (stp s r) t → G s r t) :
    ∀ (k n : Nat) (r : Nat → Nat) (s : S) (t : Nat), k + n = N → rowW N T r → (∀ m, m < N → T 8 m ≠ 0 → r m = T 9 m) → (∀ m, n ≤ m → m < N → r m = lo T m) → Cont G E (nx T n r) (frD T stp k n r s) (t + cnD T k n - 1) → G s r t := by
  intro k
  induction k with
  | zero =>
    intro n r s t hk hr hl hf hC
    obtain rfl : n = N := by omega
    refine one s r t hr hl ?_
    have e : t + cnD T 0 n - 1 = t := by rw [cnD]; omega
    rw [e] at hC
    exact hC
  | succ k ih =>
    intro n r s t hk hr hl hf hC
    have hn : n < N := by omega
    have hwn := w_hi w hn
    have h9 := row9 w n hn
    have hlo : lo T n ≤ hi T n := by
      unfold lo hi; split <;> omega
    have hrange : ∀ v, lo T n ≤ v → v ≤ hi T n → T 3 n ≤ v ∧ v ≤ T 4 n := fun v h1 h2 => by
      unfold lo at h1; unfold hi at h2
      split at h1 <;> split at h2 <;> omega
    have hlock : ∀ v, lo T n ≤ v → v ≤ hi T n → T 8 n ≠ 0 → v = T 9 n := fun v h1 h2 h3 => by
      unfold lo at h1; unfold hi at h2
      rw [if_neg h3] at h1 h2
      omega
    have inner : ∀ (c v : Nat) (s : S) (t : Nat), lo T n ≤ v → v + (c + 1) = hi T n + 1 → Cont G E (nx T n r) ((List.range' v (c + 1)).foldl (fun s v => frD T stp k (n + 1) (ur r n v) s) s) (t + (c + 1) * cnD T k (n + 1) - 1) → G s (ur r n v) t := by
      intro c
      induction c with
      | zero =>
        intro v s t hv hc hC
        have hv2 : v = hi T n := by omega
        have hrg := hrange v hv (by omega)
        refine ih (n + 1) (ur r n v) s t (by omega) (fun m hm => ?_) (fun m hm hm2 => ?_) (fun m h1 h2 => by rw [ur_ne (by omega)]; exact hf m (by omega) h2) ?_
        · by_cases e : m = n
          · subst e; rw [ur_eq]; exact hrg
          · rw [ur_ne e]; exact hr m hm
        · by_cases e : m = n
          · subst e; rw [ur_eq]; exact hlock v hv (by omega) hm2
          · rw [ur_ne e]; exact hl m hm hm2
        · have e1 : nx T (n + 1) (ur r n v) = nx T n r := by
            rw [nx]
            by_cases e : T 8 n = 0
            · rw [if_pos e, ur_eq, if_neg (by unfold hi at hv2; rw [if_pos e] at hv2; omega), ur_ur, ur_self (by have := hf n (Nat.le_refl n) hn; unfold lo at this; rw [if_pos e] at this; exact this)]
            · rw [if_neg e, ur_self]
              rw [hf n (Nat.le_refl n) hn]
              unfold lo hi at *
              rw [if_neg e] at *
              omega
          rw [e1]
          have e2 : t + (0 + 1) * cnD T k (n + 1) - 1 = t + cnD T k (n + 1) - 1 := by omega
          rw [e2] at hC
          exact hC
      | succ c ihc =>
        intro v s t hv hc hC
        have hrg := hrange v hv (by omega)
        have h8 : T 8 n = 0 := by
          by_cases e : T 8 n = 0
          · exact e
          · have := hlock v hv (by omega) e
            unfold hi at hc
            rw [if_neg e] at hc
            omega
        have hcp := cnD_pos (T := T) k (n + 1)
        refine ih (n + 1) (ur r n v) s t (by omega) (fun m hm => ?_) (fun m hm hm2 => ?_) (fun m h1 h2 => by rw [ur_ne (by omega)]; exact hf m (by omega) h2) ?_
        · by_cases e : m = n
          · subst e; rw [ur_eq]; exact hrg
          · rw [ur_ne e]; exact hr m hm
        · by_cases e : m = n
          · subst e; exact absurd h8 hm2
          · rw [ur_ne e]; exact hl m hm hm2
        · have e1 : nx T (n + 1) (ur r n v) = some (ur r n (v + 1)) := by
            rw [nx, if_pos h8, ur_eq, if_pos (by unfold hi at hc; rw [if_pos h8] at hc; omega), ur_ur]
          rw [e1]
          refine ihc (v + 1) _ _ (by omega) (by omega) ?_
          have e2 : t + (c + 1 + 1) * cnD T k (n + 1) - 1 = t + cnD T k (n + 1) - 1 + 1 + (c + 1) * cnD T k (n + 1) - 1 := by
            rw [Nat.succ_mul (c + 1)]
            omega
          rw [e2, List.range'_succ, List.foldl_cons] at hC
          exact hC
    have key := inner (hi T n - lo T n) (lo T n) s t (Nat.le_refl _) (by omega) (by
      rw [frD, cnD] at hC
      exact hC)
    rw [ur_self (hf n (Nat.le_refl n) hn)] at key
    exact key
/-- how many rows there are -/
def pr (T : Tb) : Nat → Nat
  | 0 => 1
  | n + 1 => pr T n * sz T n
theorem pr_cnD : ∀ (k n : Nat), pr T (n + k) = pr T n * cnD T k n := by
  intro k
  induction k with
  | zero => intro n; rw [cnD, Nat.mul_one]; rfl
  | succ k ih =>
    intro n
    have := ih (n + 1)
    rw [cnD, ← Nat.mul_assoc]
    have e : n + (k + 1) = n + 1 + k := by omega
    rw [e, this]
    rfl
theorem cr_pr : ∀ n, cr T n ≤ 20000 → cr T n = pr T n := by
  intro n
  induction n with
  | zero => intro _; rfl
  | succ n ih =>
    intro h
    rw [cr] at h ⊢
    rw [pr]
    by_cases e : T 8 n = 0
    · rw [if_pos e] at h ⊢
      have es : sz T n = cnt T n := by unfold sz cnt hi lo; rw [if_pos e, if_pos e]
      by_cases e2 : 1000000 < cr T n * cnt T n
      · rw [if_pos e2] at h; omega
      · rw [if_neg e2] at h ⊢
        have h1 : cr T n * 1 ≤ cr T n * cnt T n := Nat.mul_le_mul_left _ (by unfold cnt; omega)
        rw [es, ih (by omega)]
    · rw [if_neg e] at h ⊢
      have es : sz T n = 1 := by unfold sz hi lo; rw [if_neg e, if_neg e]; omega
      rw [es, Nat.mul_one, ih h]
theorem cr_cnD (h : cr T N ≤ 20000) : cr T N = cnD T N 0 := by
  have := pr_cnD (T := T) N 0
  rw [Nat.zero_add] at this
  rw [cr_pr N h, this, pr, Nat.one_mul]
end
