/- Part 04: the judgement. -/
def xCmax : Nat := 601024
def xSmax : Nat := 7293034
def xOK (M : XM) : Bool := plainName M.1.cls && (decide (M.1.cls ≠ "java/lang/invoke/MethodHandle" ∧ M.1.cls ≠ "java/lang/invoke/VarHandle") && M.2.2.2.2.2.all (xchk M.1 M.2.1))
/-- a word that stays true as the tables warm, by the library's own word or by one of its own -/
def xgw (w : Jvm.Cond) : Bool := goodWord w || (match w with
  | .castable _ _ => true
  | .declares _ => true
  | .methodLinkNest _ _ _ _ => true
  | .arrayOver (.object _) => true
  | _ => false)
def xW (w : Jvm.Cond) : Prop := w ∈ lw_tbl ∧ xgw w = true
def xWS (s : State) : Prop := ∀ w : Jvm.Cond, xW w → ∀ args : Array Value, w.before args s = true
theorem xgw_move {s U : State} {w : Jvm.Cond} (hg : xgw w = true) (hW : s.WarmedH U.vm) (h : w.before #[] s = true) (a : Array Value) : w.before a U = true := by
  unfold xgw at hg
  rw [Bool.or_eq_true] at hg
  rcases hg with hg | hg
  · exact word_at hW (good_of_word hg) h
  · split at hg
    · exact va_Nw.use rfl (va_Nw.warmC hW h)
    · exact va_Nw.use rfl (va_Nw.warmD hW h)
    · exact va_Nw.use rfl (va_Nw.warmM hW h)
    · exact va_AO.use (va_AO.moved hW.alike (va_AO.of h))
    · cases hg
theorem xWS.moved {s U : State} (h : xWS s) (hW : s.WarmedH U.vm) : xWS U := fun w h1 a => xgw_move h1.2 hW (h w h1 #[]) a
theorem xW_tab {i : Nat} {w : Jvm.Cond} (h : tables_1[i]? = some w) (hg : xgw w = true) : xW w := ⟨List.mem_append_right _ (List.mem_of_getElem? h), hg⟩
theorem xW_sel {i : Nat} {w : Jvm.Cond} (h : (k2_sels lw_privs)[i]? = some w) (hg : xgw w = true) : xW w := ⟨List.mem_append_left _ (List.mem_of_getElem? h), hg⟩
theorem xwt_W {i : Nat} {w : Jvm.Cond} (h : xwt i w = true) : xW w := by
  unfold xwt at h
  rw [Bool.and_eq_true] at h
  exact xW_tab (of_decide_eq_true h.1) (by unfold xgw; rw [h.2]; rfl)
def xstrs : List (Nat × String) := [(287, "there is no such thing"), (290, "a number is not as said"), (294, "it can't be done as things are"), (172, "no such what")]
def xncs : List (String × String) := [("java/lang/IllegalArgumentException", "java/lang/IndexOutOfBoundsException"), ("java/lang/IllegalStateException", "java/lang/IndexOutOfBoundsException"), ("java/lang/IllegalStateException", "java/lang/IllegalArgumentException"), ("java/lang/IllegalArgumentException", "java/lang/IllegalStateException"), ("java/lang/IndexOutOfBoundsException", "java/lang/IllegalArgumentException"), ("java/lang/IndexOutOfBoundsException", "java/lang/IllegalStateException")]
/-- the class object of Object[] is made: its address is at the free place 1001 of D -/
def xMir (D : va_G) (s : State) : Prop := ∃ (c : ClassId) (k : Class), s.vm.findClass "[Ljava/lang/Object;" = some c ∧ s.vm.classes[c]? = some k ∧ k.mirror = some (D.1 1001)
theorem xMir.moved {D : va_G} {s U : State} (h : xMir D s) (hW : s.WarmedH U.vm) : xMir D U := by
  obtain ⟨c, k, h1, h2, h3⟩ := h
  obtain ⟨k2, e1, e2, -⟩ := hW.mirror h2
  exact ⟨c, k2, by rw [hW.alike.findClass]; exact h1, e1, e2.trans h3⟩
/-- the class's texts are resolved; which exceptions are not which; Object[]'s class object -/
def xWd (D : va_G) (s : State) : Prop := (∀ q ∈ xstrs, ∃ sa : Nat, vk_R "ChannelNet" q.1 q.2 sa s) ∧ (∀ q ∈ xncs, va_Nc q.1 q.2 s) ∧ xMir D s
theorem xWd.moved {D : va_G} {s U : State} (h : xWd D s) (hW : s.WarmedH U.vm) : xWd D U := ⟨fun q hq => (h.1 q hq).imp fun _ z => vk_R.warm hW z, fun q hq => (h.2.1 q hq).moved hW.alike, h.2.2.moved hW⟩
def xCtx (D : va_G) (M : XM) (d : Nat) (p : Program) (l : Launch) (R : Room) (s : State) (m : MethodId) (meth : Method) (c : Code) : Prop :=
  p.tables.exec = Jvm.exec ∧ c.code = M.2.1 ∧ c.maxLocals = M.2.2.1 ∧ c.exceptionTable.toList = tableOf M.2.2.2.2.1 ∧ meth.locks = false ∧ meth.sig.returnType = M.2.2.2.1 ∧ meth.name = M.1.name ∧
  s.vm.findClass M.1.cls = some m.cls ∧ xWS s ∧ va_K D xcl [] s ∧ d ≤ R.frames ∧ d * 64 ≤ R.locals ∧ xOK M = true ∧ l.flags = pinnedFlags ++ [noTraceFlag] ∧ xWd D s
def xro (c : XC) : Bool := match c with
  | .inl q => q.1
  | .inr _ => false
/-- an array that was there before (true): its class, lock and hash may be any -/
def xAt (D : va_G) (s : State) (a : Nat) (c : XC) (H : Heap) : Prop := match c with
  | .inl (false, q) => ∃ cA : ClassId, H[a]? = some (vp_cell cA q.2) ∧ ArrOfT s cA q.1 ∧ va_RA s cA q.1
  | .inl (true, q) => ∃ cl : Cell, H[a]? = some cl ∧ cl.slots = (vp_cell cl.cls q.2).slots ∧ cl.vm ≠ .unknown ∧ s.isArrayOf cl q.1
  | .inr q => va_at D xcl (a, .inr q) H
/-- what the start's heap holds of the JDK's statics: cells older than N0, so unchanged -/
def xZs (N0 : Nat) (s : State) (H : Heap) : Prop := vx_Zq Bundle.tN "UNASSIGNED_STACK" Bundle.steD (fun q => N0 ≤ q) s H ∧ vx_Zq Bundle.tN "SUPPRESSED_SENTINEL" Bundle.listD (fun q => N0 ≤ q) s H
theorem xZs.moved {N0 : Nat} {u U : State} {H : Heap} (hal : u.vm.Alike U.vm) (h : xZs N0 u H) : xZs N0 U H := ⟨h.1.moved hal, h.2.moved hal⟩
theorem xZs.kept {N0 : Nat} {s : State} {H H1 : Heap} (h : xZs N0 s H) (ho : ∀ q : Nat, q < H.size → q < N0 → H1[q]? = H[q]?) : xZs N0 s H1 := ⟨h.1.kept (fun a h1 h2 => ho a h1 (Nat.not_le.mp h2)), h.2.kept (fun a h1 h2 => ho a h1 (Nat.not_le.mp h2))⟩
/-- and the empty array that new lists share: its address is at the free place 1000 of D -/
def xZt (D : va_G) (N0 : Nat) (s : State) (H : Heap) : Prop := xZs N0 s H ∧ va_Z "java/util/ArrayList" "DEFAULTCAPACITY_EMPTY_ELEMENTDATA" "[Ljava/lang/Object;" (.ref (D.1 1000)) (fun q => N0 ≤ q) s H
theorem xZt.moved {D : va_G} {N0 : Nat} {u U : State} {H : Heap} (hal : u.vm.Alike U.vm) (h : xZt D N0 u H) : xZt D N0 U H := ⟨h.1.moved hal, h.2.moved hal⟩
theorem xZt.kept {D : va_G} {N0 : Nat} {s : State} {H H1 : Heap} (h : xZt D N0 s H) (ho : ∀ q : Nat, q < H.size → q < N0 → H1[q]? = H[q]?) : xZt D N0 s H1 := ⟨h.1.kept ho, h.2.kept (fun a h1 h2 => ho a h1 (Nat.not_le.mp h2))⟩
def xHp (D : va_G) (s : State) (N0 : Nat) (h : XH) (H : Heap) : Prop := H.size = h.1 ∧ (∀ (a : Nat) (c : XC), xget h a = some c → xAt D s a c H ∧ (xro c = false → N0 ≤ a)) ∧ N0 ≤ h.1 ∧ xZt D N0 s H
def xRm (N0 : Nat) (R : Room) (h : XH) (locs : List Loc) (cells slots : Nat) : Prop :=
  (∀ q ∈ locs, N0 ≤ q.base) ∧ cells ≤ R.cells ∧ slots ≤ R.slots ∧ xCmax + cells ≤ R.cells + h.2.1 ∧ xSmax + slots ≤ R.slots + h.2.2.1
def xEnd (D : va_G) (N0 : Nat) (R : Room) (s : State) (below : List Frame) (Q : Outcome → XH → Prop) : State → Prop := fun t =>
  ∃ (o : Outcome) (h : XH) (L : List Loc) (k n : Nat), t.status = .running ∧ Ended t below o ∧ s.WarmedH t.vm ∧ s.sameButNew ({ t with vm := s.vm } : State) L k n ∧ xHp D s N0 h t.heap ∧ xRm N0 R h L k n ∧ Q o h
def xV (D : va_G) (N0 : Nat) (M : XM) (d pc : Nat) (lv : XL) (st : List Value) (h : XH) (Q : Outcome → XH → Prop) : Prop :=
  ∀ (p : Program) (l : Launch) (e : Env) (R : Room) (s : State) (m : MethodId) (args : Array Value) (below : List Frame) (meth : Method) (c : Code) (H : Heap) (locs : List Loc) (cells slots : Nat) (ls : Array Slot),
    xCtx D M d p l R s m meth c → xHp D s N0 h H → xRm N0 R h locs cells slots → xLs M.2.2.1 lv ls → W p l e R s m args below meth c H locs cells slots (xEnd D N0 R s below Q) (F0 m pc ls st)
/-- the same, where the object a is being thrown -/
def xT (D : va_G) (N0 : Nat) (M : XM) (d pc : Nat) (lv : XL) (a : Nat) (h : XH) (Q : Outcome → XH → Prop) : Prop :=
  ∀ (p : Program) (l : Launch) (e : Env) (R : Room) (s : State) (m : MethodId) (args : Array Value) (below : List Frame) (meth : Method) (c : Code) (T : State) (locs : List Loc) (cells slots : Nat) (ls : Array Slot) (st : List Value),
    xCtx D M d p l R s m meth c → xHp D s N0 h T.heap → xRm N0 R h locs cells slots → xLs M.2.2.1 lv ls → Stand p l e R s m args below meth c T locs cells slots →
    ∃ t, Steps p.tables e below ((T.setTop (F0 m pc ls st)).pushFrame (.throwing a)) t ∧ xEnd D N0 R s below Q t
def xgo (M : XM) (pc : Nat) (lv : XL) (st : List Value) : Option (Nat × XL × List Value) := match xlook M.2.2.2.2.2 pc with
  | some q => xstep q lv st
  | none => none
theorem xlook_spec {tab : List XI} {pc : Nat} {q : XI} (h : xlook tab pc = some q) : q ∈ tab ∧ q.1 = pc := by
  induction tab with
  | nil => cases h
  | cons e t ih =>
    unfold xlook at h
    cases hb : Nat.beq e.1 pc with
    | true =>
      rw [hb] at h
      cases h
      exact ⟨List.mem_cons_self, Nat.eq_of_beq_eq_true hb⟩
    | false =>
      rw [hb] at h
      obtain ⟨h1, h2⟩ := ih h
      exact ⟨List.mem_cons_of_mem _ h1, h2⟩
theorem xOK_at {M : XM} (h : xOK M = true) {pc : Nat} {q : XI} (hq : xlook M.2.2.2.2.2 pc = some q) : xchk M.1 M.2.1 q = true ∧ q.1 = pc := by
  unfold xOK at h
  rw [Bool.and_eq_true, Bool.and_eq_true] at h
  obtain ⟨h1, h2⟩ := xlook_spec hq
  exact ⟨List.all_eq_true.mp h.2.2 q h1, h2⟩
section XV
variable {D : va_G} {N0 : Nat} {M : XM} {d pc : Nat} {lv : XL} {st : List Value} {h : XH} {Q : Outcome → XH → Prop}
theorem xV.step {pc' : Nat} {lv' : XL} {st' : List Value} (hs : xgo M pc lv st = some (pc', lv', st')) (k : xV D N0 M d pc' lv' st' h Q) : xV D N0 M d pc lv st h Q := by
  intro p l e R s m args below meth c H locs cells slots ls C hH hR hL
  unfold xgo at hs
  cases hq : xlook M.2.2.2.2.2 pc with
  | none => rw [hq] at hs; cases hs
  | some q =>
    rw [hq] at hs
    obtain ⟨hk, rfl⟩ := xOK_at C.2.2.2.2.2.2.2.2.2.2.2.2.1 hq
    exact xstep_W C.1 C.2.1 C.2.2.2.2.2.2.2.1 (fun i w h1 => C.2.2.2.2.2.2.2.2.1 w (xwt_W h1) args) hk hL hs (fun ls' hl' => k p l e R s m args below meth c H locs cells slots ls' C hH hR hl')
theorem xV.mono {Q' : Outcome → XH → Prop} (hq : ∀ o u, Q' o u → Q o u) (k : xV D N0 M d pc lv st h Q') : xV D N0 M d pc lv st h Q := by
  intro p l e R s m args below meth c H locs cells slots ls C hH hR hL T hT X
  obtain ⟨t, h1, o, u, L, k1, n1, e1, e2, e3, e4, e5, e6, e7⟩ := k p l e R s m args below meth c H locs cells slots ls C hH hR hL T hT X
  exact ⟨t, h1, o, u, L, k1, n1, e1, e2, e3, e4, e5, e6, hq _ _ e7⟩
theorem xHp.lt {s : State} {H : Heap} (hH : xHp D s N0 h H) {a : Nat} {c : XC} (ha : xget h a = some c) : a < h.1 := by
  rw [← hH.1]
  obtain ⟨h1, -⟩ := hH.2.1 a c ha
  cases c with
  | inl q =>
    obtain ⟨b, q⟩ := q
    cases b with
    | false =>
      obtain ⟨cA, h2, -⟩ := h1
      exact (Array.getElem?_eq_some_iff.mp h2).1
    | true =>
      obtain ⟨cl, h2, -⟩ := h1
      exact (Array.getElem?_eq_some_iff.mp h2).1
  | inr q =>
    obtain ⟨r, -, cell, h2, -⟩ := h1
    exact (Array.getElem?_eq_some_iff.mp h2).1
theorem xV.wf (k : (∀ (a : Nat) (c : XC), xget h a = some c → a < h.1) → xV D N0 M d pc lv st h Q) : xV D N0 M d pc lv st h Q := by
  intro p l e R s m args below meth c H locs cells slots ls C hH hR hL
  exact k (fun a c ha => hH.lt ha) p l e R s m args below meth c H locs cells slots ls C hH hR hL
end XV
