/- Part 05: calls, throws, returns. -/
def xargs (nL : Nat) (as : List Value) : XL := (lv_args 0 as).foldl (fun lv q => xupd lv q.1 (some q.2)) (List.replicate nL none)
theorem xargs_len (l : List (Nat × Value)) (lv : XL) : (l.foldl (fun lv q => xupd lv q.1 (some q.2)) lv).length = lv.length := by
  induction l generalizing lv with
  | nil => rfl
  | cons q t ih => rw [List.foldl_cons, ih, xlen_upd]
theorem xargs_nth (l : List (Nat × Value)) (lv : XL) {j : Nat} {w : Value} (h : xnth (l.foldl (fun lv q => xupd lv q.1 (some q.2)) lv) j = some w) : (j, w) ∈ l ∨ xnth lv j = some w := by
  induction l generalizing lv with
  | nil => exact Or.inr h
  | cons q t ih =>
    rw [List.foldl_cons] at h
    rcases ih _ h with h1 | h1
    · exact Or.inl (List.mem_cons_of_mem _ h1)
    · rw [xnth_upd] at h1
      by_cases hq : q.1 = j
      · rw [if_pos hq] at h1
        split at h1
        · cases h1
          subst hq
          exact Or.inl List.mem_cons_self
        · cases h1
      · rw [if_neg hq] at h1
        exact Or.inr h1
theorem xnth_rep (n j : Nat) : xnth (List.replicate n none) j = none := by
  induction n generalizing j with
  | zero => rfl
  | succ n ih =>
    cases j with
    | zero => rfl
    | succ j => exact ih j
theorem xLs_args {nL : Nat} (as : List Value) (hn : (lg_sl as).length ≤ nL) : xLs nL (xargs nL as) ((lg_sl as ++ List.replicate (nL - (lg_sl as).length) Slot.unset).toArray) := by
  obtain ⟨h1, h2, h3⟩ := lv_entry as hn
  refine ⟨by rw [xargs, xargs_len, List.length_replicate], h1, h2, fun j w hj => ?_⟩
  rcases xargs_nth _ _ hj with h4 | h4
  · exact h3 (j, w) h4
  · rw [xnth_rep] at h4; cases h4
def xcw (M : XM) : Jvm.Cond := match M.2.2.2.2.1 with
  | [] => .code M.1 M.2.1 M.2.2.1 M.2.2.2.1
  | hs => .codeWith M.1 M.2.1 M.2.2.1 M.2.2.2.1 hs
def xIs (M : XM) (s : State) (mk : MethodId) (meth : Method) (c : Code) : Prop :=
  s.methodNamed? M.1 = some mk ∧ s.vm.method? mk = some meth ∧ meth.code = some c ∧ c.code = M.2.1 ∧ c.maxLocals = M.2.2.1 ∧ c.exceptionTable.toList = tableOf M.2.2.2.2.1 ∧ meth.locks = false ∧ meth.sig.returnType = M.2.2.2.1 ∧ meth.name = M.1.name ∧ parseMethodDescriptor M.1.desc = some meth.sig
theorem xIs_of {M : XM} {args : Array Value} {s : State} (h : (xcw M).before args s = true) : ∃ mk meth c, xIs M s mk meth c := by
  unfold xcw at h
  split at h
  · rename_i hh
    obtain ⟨mk, hn⟩ := Cond.code_named h
    obtain ⟨meth, c, h1, h2, h3, h4, h5, h6, h7, h8⟩ := Cond.code_spec hn h
    refine ⟨mk, meth, c, hn, h1, h2, h3, h4, ?_, h6, h5, (name_of_methodNamed hn h1).1, h8⟩
    rw [hh]
    have h9 : c.exceptionTable.size = 0 := by simpa [Array.isEmpty] using h7
    exact List.eq_nil_of_length_eq_zero (by simpa using h9)
  · obtain ⟨mk, meth, c, hn, h1, h2, h3, h4, h5, h6, h7, h8⟩ := Cond.codeWith_spec h
    exact ⟨mk, meth, c, hn, h1, h2, h3, h4, by rw [← h5, table_eq], h7, h6, (name_of_methodNamed hn h1).1, h8⟩
section XC5
variable {D : va_G} {N0 : Nat} {M : XM} {d pc : Nat} {lv : XL} {st : List Value} {h : XH} {Q : Outcome → XH → Prop}
theorem xHp.moved {s U : State} {H : Heap} (hal : s.vm.Alike U.vm) (hH : xHp D s N0 h H) : xHp D U N0 h H := by
  refine ⟨hH.1, fun a c hc => ?_, hH.2.2.1, hH.2.2.2.moved hal⟩
  obtain ⟨h1, h2⟩ := hH.2.1 a c hc
  refine ⟨?_, h2⟩
  cases c with
  | inl q =>
    obtain ⟨b, q⟩ := q
    cases b with
    | false =>
      obtain ⟨cA, e1, e2, e3⟩ := h1
      exact ⟨cA, e1, arrOfT_moved hal e2, e3.moved hal⟩
    | true =>
      obtain ⟨cl, e1, e2, e3, e4⟩ := h1
      exact ⟨cl, e1, e2, e3, State.isArrayOf_alike hal e4⟩
  | inr q => exact h1
theorem xSteps_weaken {tb : Tables} {e : Env} {f : Frame} {below : List Frame} {s t : State} (hs : Steps tb e (f :: below) s t) : Steps tb e below s t := by
  obtain ⟨n, h1, h2⟩ := hs
  exact ⟨n, h1, fun k hk => Within.weaken (mid := [f]) (h2 k hk)⟩
set_option maxHeartbeats 4000000 in
theorem xcallW {M2 : XM} {rest as : List Value} {Q2 : Outcome → XH → Prop} {nx len : Nat} {ig : Instr} (hcon : xV D N0 M2 d 0 (xargs M2.2.2.1 as) [] h Q2)
    (kr : ∀ v u, Q2 (.returned v) u → xV D N0 M (d + 1) nx lv (v.toList ++ rest) u Q) (kt : ∀ a u, Q2 (.threw a) u → xT D N0 M (d + 1) pc lv a u Q)
    (hok2 : xOK M2 = true) (hsz : (lg_sl as).length ≤ M2.2.2.1) (hcat : (rest.map fun v => v.category).sum + (M2.2.2.1 + 11) ≤ 64)
    {p : Program} {l : Launch} {e : Env} {R : Room} {s : State} {m : MethodId} {args : Array Value} {below : List Frame} {meth : Method} {c : Code} {T : State} {locs : List Loc} {cells slots : Nat} {ls : Array Slot}
    (C : xCtx D M (d + 1) p l R s m meth c) (hH : xHp D s N0 h T.heap) (hR : xRm N0 R h locs cells slots) (hL : xLs M.2.2.1 lv ls) (X : Stand p l e R s m args below meth c T locs cells slots)
    (hdg : decode c.code pc = .ok (ig, len)) (hnx : nx = pc + len) {mk : MethodId} {methk : Method} {ck : Code} (hI : xIs M2 s mk methk ck) :
    ∃ t, Steps p.tables e below (doInvoke e (T.setTop (F0 m pc ls rest)) [] mk as.toArray).1 t ∧ xEnd D N0 R s below Q t := by
  obtain ⟨i1, i2, i3, i4, i5, i6, i7, i8, i9, i10⟩ := hI
  obtain ⟨c1, c2, c3, c4, c5, c6, c7, c8, c9, c10, c11, c12, c13, c14, c15⟩ := C
  obtain ⟨r1, r2, r3, r4, r5⟩ := hR
  have hmkT : T.vm.method? mk = some methk := by rw [X.warmed.alike.method?]; exact i2
  have hpl : T.plainMethod mk := by
    refine State.plainMethod.of_name ?_
    intro k hk
    obtain ⟨k', hk', hn⟩ := className_of_methodNamed (X.named i1)
    cases hk.symm.trans hk'
    rw [hn]
    unfold xOK at hok2
    rw [Bool.and_eq_true] at hok2
    exact hok2.1
  have hroomw : 2 * (F0 m pc ls rest).monitorRoom + ((F0 m pc ls rest).stack.map fun v => v.category).sum + (ck.maxLocals + 11) ≤ 64 := by
    show 2 * 0 + (rest.map fun v => v.category).sum + (ck.maxLocals + 11) ≤ 64
    rw [i5]; omega
  obtain ⟨Y, hdo⟩ := X.into (g := F0 m pc ls rest) rfl (by show ls.size = c.maxLocals; rw [c3]; exact hL.2.1) hdg as.toArray
    (R' := { frames := R.frames - 1, cells := R.cells - cells, slots := R.slots - slots, locals := R.locals - 64 }) hmkT i3 i7 hpl (by show R.frames - 1 + 1 ≤ R.frames; omega) (by show _ + (R.locals - 64) ≤ R.locals; omega) (by show cells + (R.cells - cells) ≤ R.cells; omega) (by show slots + (R.slots - slots) ≤ R.slots; omega)
  have hal : s.vm.Alike (T.calling (F0 m pc ls rest) mk as.toArray).vm := X.warmed.alike
  have hWs : s.WarmedH (T.calling (F0 m pc ls rest) mk as.toArray).vm := X.warmed
  have hfc : (T.calling (F0 m pc ls rest) mk as.toArray).vm.findClass M2.1.cls = some mk.cls := by
    have := findClass_of_methodNamed (X.named i1)
    exact this
  have hent : (entryFrame mk as.toArray ck.maxLocals) = F0 mk 0 ((lg_sl as ++ List.replicate (M2.2.2.1 - (lg_sl as).length) Slot.unset).toArray) [] := by
    rw [i5]
    exact lg_entry_eq mk as _
  obtain ⟨t, hst, o, u, L, k, n, e1, e2, e3, e4, e5, e6, e7⟩ := hcon p l e { frames := R.frames - 1, cells := R.cells - cells, slots := R.slots - slots, locals := R.locals - 64 } (T.calling (F0 m pc ls rest) mk as.toArray) mk as.toArray (.java (F0 m pc ls rest) :: below) methk ck T.heap [] 0 0 _
    ⟨c1, i4, i5, i6, i7, i8, i9, hfc, c9.moved hWs, c10.moved hal, by show d ≤ R.frames - 1; omega, by show d * 64 ≤ R.locals - 64; omega, hok2, c14, c15.moved hWs⟩ (hH.moved hal)
    ⟨fun q hq => (nomatch hq), Nat.zero_le _, Nat.zero_le _, by show xCmax + 0 ≤ R.cells - cells + h.2.1; omega, by show xSmax + 0 ≤ R.slots - slots + h.2.2.1; omega⟩ (xLs_args as hsz) ((T.setTop (F0 m pc ls rest)).pushFrame (.java (entryFrame mk as.toArray ck.maxLocals))) rfl Y
  rw [hdo [], hent]
  rw [hent] at hst
  have hst := xSteps_weaken hst
  obtain ⟨q1, q2, q3, q4, q5⟩ := e6
  cases o with
  | returned v =>
    obtain ⟨T', X', hW', -, ht⟩ := X.outOf (g := F0 m pc ls rest) (mk := mk) (a := as.toArray) rfl hdg e2 e3 e4
    have hheap : T'.heap = t.heap := by rw [ht]; rfl
    obtain ⟨t2, s2, E2⟩ := kr v u e7 p l e R s m args below meth c T'.heap (locs ++ L) (cells + k) (slots + n) ls ⟨c1, c2, c3, c4, c5, c6, c7, c8, c9, c10, c11, c12, c13, c14, c15⟩ (by rw [hheap]; exact e5.moved hal.symm)
      ⟨fun q hq => (List.mem_append.mp hq).elim (r1 q) (q1 q), by simp only at q2; omega, by simp only at q3; omega, by simp only at q4; omega, by simp only at q5; omega⟩ hL T' rfl X'
    refine ⟨t2, hst.trans ?_, E2⟩
    rw [ht]
    rw [hnx] at s2
    exact s2
  | threw a =>
    obtain ⟨T', X', hW', -, ht⟩ := X.outOfThrown (g := F0 m pc ls rest) (mk := mk) (a := as.toArray) rfl e2 e3 e4
    have hheap : T'.heap = t.heap := by rw [ht]; rfl
    obtain ⟨t2, s2, E2⟩ := kt a u e7 p l e R s m args below meth c T' (locs ++ L) (cells + k) (slots + n) ls rest ⟨c1, c2, c3, c4, c5, c6, c7, c8, c9, c10, c11, c12, c13, c14, c15⟩ (by rw [hheap]; exact e5.moved hal.symm)
      ⟨fun q hq => (List.mem_append.mp hq).elim (r1 q) (q1 q), by simp only at q2; omega, by simp only at q3; omega, by simp only at q4; omega, by simp only at q5; omega⟩ hL X'
    refine ⟨t2, hst.trans ?_, E2⟩
    rw [ht]
    exact s2
end XC5
