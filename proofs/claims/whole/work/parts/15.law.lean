/-! THE CLAIM OUT OF ONE WALK OF THE LAW'S BODY. Your part is whole_start (and what it stands on); all else here is the same for every law, but numbers. -/
def R_law : String := "RateTreeLaw"
def lw_P (b : Addr) (xs : List Int32) (args : Array Value) (s : State) : Prop := args = #[.ref b] ∧ s.IntsAt b xs ∧ xs.length ≤ 3072 ∧ (Jvm.Cond.and given_1 narrow_1).before args s = true
def lw_Q (_ : Array Value) (s : State) (o : Outcome) (t : State) : Prop := o = .returned (some (.int 1)) ∧ Framed s o t [] 600000 7302250
def lw_Z (below : List Frame) (a : Array Value) (s : State) : State → Prop := fun t => ∃ o, t.status = .running ∧ Ended t below o ∧ lw_Q a s o t
/-- the law's own end, with 1 on the stack, nothing written that was there before, its room as the claim has it -/
theorem lw_ret {p : Program} {l : Launch} {e : Env} {s : State} {m : MethodId} {below : List Frame} {meth : Method} {c : Code} {b : Nat} (hx : p.tables.exec = Jvm.exec) (hb : c.code = code) (hr : meth.sig.returnType = ret) (hlocks : meth.locks = false) {pc : Nat} {H : Heap} {ls : Array Slot} (hdg : decode code pc = .ok (.ireturn, 1)) : W p l e room_1 s m #[Value.ref b] below meth c H [] 600000 7302250 (lw_Z below #[Value.ref b] s) (F0 m pc ls [.int 1]) := by
  intro T hT X
  obtain ⟨fs, hret, hrun, hended, hW, hframe⟩ := X.leave (v := some (.int 1)) (hlocks := hlocks) (fun h => by rw [hr] at h; cases h)
  have hmeth' : T.vm.method? m = some meth := X.method'
  refine ⟨T.setFrames fs, ?_, .returned (some (.int 1)), hrun, hended, rfl, ⟨_, rfl⟩, hW, hframe⟩
  jvm_step X.here [X.here.top, hx, hb, hdg, hmeth', hr, ret, narrow_b1]
  (try refine ⟨rfl, ?_⟩); (try refine ⟨rfl, ?_⟩)
  first | (intro acts; rw [hret _ acts rfl rfl rfl]) | rw [hret _ _ rfl rfl rfl]
  exact Steps.refl _
/-- what holds at the law's entry: the machine, the code, the tables' words (any of lw_tbl by 'hts w (by decide +kernel)'), the script of L ints xs at the cell b, what the Statement gives of the start (any of its parts by flat_of_before) -/
def lw_At (p : Program) (s : State) (m : MethodId) (meth : Method) (c : Code) (b L : Nat) (xs : Nat → Int32) : Prop :=
  p.tables.exec = Jvm.exec ∧ c.code = code ∧ meth.sig.returnType = ret ∧ c.maxLocals = 4 ∧ s.vm.findClass R_law = some m.cls ∧ (∀ w ∈ lw_tbl, w.before #[Value.ref b] s = true) ∧ va_X b L xs s s.heap ∧ b < s.heap.size ∧ meth.locks = false ∧ (Jvm.Cond.and given_1 narrow_1).before #[Value.ref b] s = true
/-! the law's walk out of the small machine's run -/
/-- the start: nothing is made; the script -/
def sg0 (L : Nat) (xs : Nat → Int32) : Sg := (0, fun _ _ => false, fun k => if k = 1000 then xs else if k = 1001 then (fun _ => Int32.ofNat L) else (fun _ => 0), fun _ _ => 0)
theorem stp_nn {M : MI} {ins : Instr} {len pc pc' : Nat} {ls ls' st st' : List Value} {σ σ' : Sg} (hn : σ.1 ≤ NN) (h : stp M ins len pc ls st σ = some (pc', ls', st', σ')) : σ'.1 ≤ NN := by
  unfold stp at h
  split at h
  all_goals try (simp only [ldI, ldL, ldA, stI, stL, stA, bI, bL, bD, bS, uI, rdI, rdL, rdA, wrI, wrL, wrA, getF, putF, newA, born] at h)
  all_goals repeat' split at h
  all_goals first
    | (cases h; done)
    | (cases h; exact hn)
    | (cases h; simp only [Bool.and_eq_true, decide_eq_true_eq] at *; show σ.1 + 1 ≤ NN; omega)
theorem ev_nn : ∀ (f d : Nat) (M : MI) (pc : Nat) (ls st : List Value) (σ : Sg) (v : Value) (σ' : Sg), σ.1 ≤ NN → ev f d M pc ls st σ = some (v, σ') → σ'.1 ≤ NN := by
  intro f
  induction f with
  | zero => intro d M pc ls st σ v σ' _ h; simp [ev] at h
  | succ f ih =>
    intro d M pc ls st σ v σ' hn h
    rw [ev] at h
    split at h
    · cases h
    · split at h
      · cases h; exact hn
      · split at h
        · split at h
          · cases h
          · split at h
            · split at h
              · cases h
              · next e1 => exact ih _ _ _ _ _ _ _ _ (ih _ _ _ _ _ _ _ _ hn e1) h
            · cases h
        · split at h
          · cases h
          · next e1 => exact ih _ _ _ _ _ _ _ _ (stp_nn hn e1) h
theorem tb_ins : ∀ c, c < 11 → Cond.instantiable (clsN c) (nfT c) ∈ tbw := by
  intro c h
  have : c = 0 ∨ c = 1 ∨ c = 2 ∨ c = 3 ∨ c = 4 ∨ c = 5 ∨ c = 6 ∨ c = 7 ∨ c = 8 ∨ c = 9 ∨ c = 10 := by omega
  rcases this with rfl | rfl | rfl | rfl | rfl | rfl | rfl | rfl | rfl | rfl | rfl
  · exact (tb_new (o := 5) (by omega) (9, 0) (by decide)).2.2.1
  · exact (tb_new (o := 9) (by omega) (39, 1) (by decide)).2.2.1
  · exact (tb_new (o := 9) (by omega) (18, 2) (by decide)).2.2.1
  · exact (tb_new (o := 9) (by omega) (32, 3) (by decide)).2.2.1
  · exact (tb_new (o := 9) (by omega) (53, 4) (by decide)).2.2.1
  · exact (tb_new (o := 9) (by omega) (9, 5) (by decide)).2.2.1
  · exact (tb_new (o := 9) (by omega) (46, 6) (by decide)).2.2.1
  · exact (tb_new (o := 8) (by omega) (9, 7) (by decide)).2.2.1
  · exact (tb_new (o := 9) (by omega) (25, 8) (by decide)).2.2.1
  · exact (tb_new (o := 11) (by omega) (7, 9) (by decide)).2.2.1
  · exact (tb_new (o := 11) (by omega) (10, 10) (by decide)).2.2.1
/-- the classes and the rows' classes, as the tables have them -/
theorem known_all {s : State} {args : Array Value} (hts : ∀ w ∈ tbw, w.before args s = true) : ∃ (cy : Nat → ClassId) (D : va_G), va_K D vwCl (tysOf cy) s := by
  have h1 : ∀ c : Nat, ∃ x : ClassId × (Nat → Nat), c < 11 → u_Kn s (clsN c) (tabT c) (nfT c) x.1 x.2 := by
    intro c
    by_cases hc : c < 11
    · obtain ⟨a, i, h⟩ := u_known (C := clsN c) (T := tabT c) (N := nfT c) (n := nfT c) hts (tb_ws c hc) (hts _ (tb_ins c hc))
      exact ⟨(a, i), fun _ => h⟩
    · exact ⟨(0, fun _ => 0), fun h => absurd h hc⟩
  obtain ⟨F, hF⟩ := Classical.axiomOfChoice h1
  obtain ⟨c0, k0, m0, a1, a2, a3⟩ := Cond.arrayClass_spec (hts _ tb_acl.1)
  obtain ⟨c1, k1, m1, b1, b2, b3⟩ := Cond.arrayClass_spec (hts _ tb_acl.2.1)
  obtain ⟨c2, k2, m2, d1, d2, d3⟩ := Cond.arrayClass_spec (hts _ tb_acl.2.2.1)
  obtain ⟨m3, c3, k3, e1, e2, e3, e4, e5⟩ := Cond.arrayOver_spec (hts _ tb_acl.2.2.2.1)
  obtain ⟨m4, c4, k4, f1, f2, f3, f4, f5⟩ := Cond.arrayOver_spec (hts _ tb_acl.2.2.2.2.1)
  obtain ⟨m5, c5, k5, g1, g2, g3, g4, g5⟩ := Cond.arrayOver_spec (hts _ tb_acl.2.2.2.2.2)
  refine ⟨fun t => if t = 0 then c0 else if t = 1 then c1 else if t = 2 then c2 else if t = 3 then c3 else if t = 7 then c4 else c5, (fun c => (F c).1, fun c => (F c).2), ?_, ?_⟩
  · intro c q hq
    have hc : c < 11 := by
      have := (List.getElem?_eq_some_iff.mp hq).1
      exact this
    rw [tb_cl c hc] at hq
    cases hq
    exact hF c hc
  · intro k q hq
    match k, hq with
    | 0, hq => cases hq; exact ⟨fun n z => ⟨fun k h => (by cases h), k0, a2, m0, a3⟩, a1⟩
    | 1, hq => cases hq; exact ⟨fun n z => ⟨fun k h => (by cases h), k1, b2, m1, b3⟩, b1⟩
    | 2, hq => cases hq; exact ⟨fun n z => ⟨fun k h => (by cases h), k2, d2, m2, d3⟩, d1⟩
    | 3, hq => cases hq; exact ⟨fun n z => ⟨fun k h => (by cases h), k3, e3, m3, e4⟩, k3, m3, e3, e4, e1, e5⟩
    | 4, hq => cases hq; exact ⟨fun n z => ⟨fun k h => (by cases h), k4, f3, m4, f4⟩, k4, m4, f3, f4, f1, f5⟩
    | 5, hq => cases hq; exact ⟨fun n z => ⟨fun k h => (by cases h), k5, g3, m5, g4⟩, k5, m5, g3, g4, g1, g5⟩
    | k + 6, hq => simp [tysOf] at hq
set_option maxRecDepth 100000 in
theorem szs_top : szs 96 ≤ 7302250 := by decide +kernel
/-- THE LAW, from its entry, if the small machine answers 1 -/
theorem whole_of {p : Program} {e : Env} {s : State} {m : MethodId} {below : List Frame} {meth : Method} {c : Code} (l : Launch) {b L : Nat} {xs : Nat → Int32} (hL : L ≤ 3072) (C0 : lw_At p s m meth c b L xs) (h : wp 100 mL_law 0 [.ref 1000, .null, .null, .null] [] (sg0 L xs) (fun v _ => v = .int 1)) : W p l e room_1 s m #[Value.ref b] below meth c s.heap [] 0 0 (lw_Z below #[Value.ref b] s) (entryFrame m ([Value.ref b] : List Value).toArray 4) := by
  obtain ⟨hx, hb, hr, hml, hown, hts0, hX, hbl, hlocks, hgv⟩ := C0
  have hts : ∀ w ∈ tbw, w.before #[Value.ref b] s = true := fun w hw => hts0 w (List.mem_filter.mp hw).1
  obtain ⟨cy, D, hK⟩ := known_all hts
  obtain ⟨f, v, τ, hev, rfl⟩ := h
  have hnn : τ.1 ≤ 96 := ev_nn _ _ _ _ _ _ _ _ _ (Nat.zero_le _) hev
  have hsl := Nat.le_trans (szs_le hnn) szs_top
  have hF := snd_all (l := l) (base := s.heap.size) (b := b) (L := L) (xs := xs) (cy := cy) (D := D) hL f 100 mL_law 0 _ _ _ _ _ (by decide) hev
  rw [lg_entry_eq]
  have hl := LR.entry (base := s.heap.size) (b := b) (Y := mL_law) (as := [.ref 1000]) (by decide)
  refine hF p e room_1 s m _ below meth c s.heap [] 0 0 _ _ ⟨hx, hb, hml, hown, hts, hK, hX, hbl, Nat.le_refl _, fun q => absurd q (by decide), by decide⟩ rfl (by show 0 + (τ.1 - 0) ≤ 600000; omega) (by show 0 + (szs τ.1 - 0) ≤ 7302250; omega) (by show 101 ≤ 2048; omega) (by show 4040 ≤ 84000; omega) ⟨fun k q h => by simp [wld, sg0] at h, va_S.rf, Nat.zero_le _, rfl, rfl⟩ hl ?_
  intro H' locs' pc' len ins st' lsM' hH' hdec hrt
  unfold rtn at hrt
  split at hrt
  · split at hrt
    · cases hrt
      refine va_forget (fun q hq => hH'.2.1.2.2 q hq) ?_
      refine W.widen (k := 600000) (n := 7302250) (by show 0 + (τ.1 - 0) ≤ 600000; omega) (by show 0 + (szs τ.1 - 0) ≤ 7302250; omega) ?_
      exact lw_ret hx hb hr hlocks hdec
    · split at hrt
      · cases hrt
        refine va_forget (fun q hq => hH'.2.1.2.2 q hq) ?_
        refine W.widen (k := 600000) (n := 7302250) (by show 0 + (τ.1 - 0) ≤ 600000; omega) (by show 0 + (szs τ.1 - 0) ≤ 7302250; omega) ?_
        exact lw_ret hx hb hr hlocks hdec
      · cases hrt
    · cases hrt
  · split at hrt
    · cases hrt
    · cases hrt
  · split at hrt
    · cases hrt
    · cases hrt
  · cases hrt
