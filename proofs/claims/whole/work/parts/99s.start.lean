/- Part 99s: the law's start. -/
theorem xWS.of {s : State} {A : Array Value} (hts : ∀ w ∈ lw_tbl, w.before A s = true) : xWS s := fun w hw a => by
  have h := hts w hw.1
  have hg := hw.2
  unfold xgw at hg
  rw [Bool.or_eq_true] at hg
  rcases hg with hg | hg
  · exact word_at (State.WarmedH.refl s) (good_of_word hg) h
  · split at hg
    · exact va_Nw.use rfl (va_Nw.of rfl h)
    · exact va_Nw.use rfl (va_Nw.of rfl h)
    · exact va_Nw.use rfl (va_Nw.of rfl h)
    · exact va_AO.use (va_AO.of h)
    · cases hg
set_option maxRecDepth 100000 in
theorem xcl_inst : ∀ (c : Nat) (q : vw_C), xcl[c]? = some q → ∃ n, xW (.instantiable q.1 n)
  | 0, q, h => by cases h; exact ⟨11, xW_tab (i := 24) rfl rfl⟩
  | 1, q, h => by cases h; exact ⟨3, xW_tab (i := 32) rfl rfl⟩
  | 2, q, h => by cases h; exact ⟨3, xW_tab (i := 51) rfl rfl⟩
  | 3, q, h => by cases h; exact ⟨4, xW_tab (i := 77) rfl rfl⟩
  | 4, q, h => by cases h; exact ⟨12, xW_tab (i := 280) rfl rfl⟩
  | 5, q, h => by cases h; exact ⟨8, xW_tab (i := 487) rfl rfl⟩
  | 6, q, h => by cases h; exact ⟨13, xW_tab (i := 636) rfl rfl⟩
  | 7, q, h => by cases h; exact ⟨48, xW_tab (i := 855) rfl rfl⟩
  | 8, q, h => by cases h; exact ⟨6, xW_tab (i := 174) rfl rfl⟩
  | 9, q, h => by cases h; exact ⟨6, xW_tab (i := 245) rfl rfl⟩
  | 10, q, h => by cases h; exact ⟨6, xW_tab (i := 264) rfl rfl⟩
  | n + 11, q, h => by
    have := (List.getElem?_eq_some_iff.mp h).1
    exact absurd this (by show ¬ n + 11 < 11; omega)
theorem xD_of {s : State} (hWS : xWS s) (x0 x1 : Nat) : ∃ D : va_G, va_K D xcl [] s ∧ D.1 1000 = x0 ∧ D.1 1001 = x1 := by
  have h : ∀ c : Nat, ∃ p : ClassId × (Nat → Nat), ∀ q, xcl[c]? = some q → u_Kn s q.1 q.2.1 q.2.2 p.1 p.2 := fun c => by
    cases hq : xcl[c]? with
    | none => exact ⟨(0, fun _ => 0), fun q z => by cases z⟩
    | some q =>
      obtain ⟨n, hi⟩ := xcl_inst c q hq
      obtain ⟨cC, iS, hk⟩ := u_known (args := #[]) (xhts xcl_ok hWS hq #[]) (fun w hw => hw) (hWS _ hi #[])
      exact ⟨(cC, iS), fun q' z => by cases z; exact hk⟩
  obtain ⟨F, hF⟩ := Classical.axiomOfChoice h
  refine ⟨(fun c => if c = 1000 then x0 else if c = 1001 then x1 else (F c).1, fun c => (F c).2), ⟨fun c q hq => ?_, fun k q hk => by cases hk⟩, rfl, rfl⟩
  have hc : c < 11 := (List.getElem?_eq_some_iff.mp hq).1
  show u_Kn s q.1 q.2.1 q.2.2 (if c = 1000 then x0 else if c = 1001 then x1 else (F c).1) _
  rw [if_neg (by omega), if_neg (by omega)]
  exact hF c q hq
theorem len_spec2 {args : Array Value} {first s : State} {o : Option Outcome} {idx : List Nat} {t : Term} {v : Value} (h : (Term.length t).eval args first o idx s = some v) :
    ∃ a cell, t.eval args first o idx s = some (.ref a) ∧ s.arrayAt? a = some cell ∧ v = .int cell.slots.size.toInt32 ∧ cell.slots.size < 2147483648 := by
  simp only [Term.eval, Option.bind_eq_bind] at h
  cases ht : t.eval args first o idx s with
  | none => simp [ht] at h
  | some x =>
    cases x <;> simp [ht] at h
    case ref a =>
      obtain ⟨cell, hcell, h⟩ := Option.bind_eq_some_iff.mp h
      by_cases hn : cell.slots.size < 2147483648
      · rw [if_pos hn] at h; cases h; exact ⟨a, cell, rfl, hcell, rfl, hn⟩
      · rw [if_neg hn] at h; cases h
/-- an array of length 0, as the Statement says it -/
theorem len0_spec {args : Array Value} {s : State} {t : Term} (h : (Cond.eq (.length t) (.int 0)).before args s = true) : ∃ a cell, t.eval args s none [] s = some (.ref a) ∧ s.arrayAt? a = some cell ∧ cell.slots = #[] := by
  cases hv : (Term.length t).eval args s none [] s with
  | none => simp [Cond.before, Cond.holds, Cond.value, hv] at h
  | some v =>
    obtain ⟨a, cell, h1, h2, rfl, h4⟩ := len_spec2 hv
    have e := Cond.eq_ints hv (show (Term.int 0).eval args s none [] s = some (.int 0) from rfl)
    have hd : cell.slots.size.toInt32 = 0 := by
      simpa [Cond.before, Cond.holds, e] using h
    refine ⟨a, cell, h1, h2, ?_⟩
    have hz : nI cell.slots.size = nI 0 := hd
    rw [xn_inj (by omega) (by omega)] at hz
    exact Array.eq_empty_of_size_eq_zero hz
set_option maxRecDepth 100000 in
theorem xw_str : ∀ q ∈ xstrs, Cond.stringRef "ChannelNet" q.1 q.2 ∈ lw_tbl := by
  intro q hq
  have : q = (287, "there is no such thing") ∨ q = (290, "a number is not as said") ∨ q = (294, "it can't be done as things are") ∨ q = (172, "no such what") := by
    simpa [xstrs] using hq
  rcases this with rfl | rfl | rfl | rfl
  · exact List.mem_append_right _ (List.mem_of_getElem? (i := 214) rfl)
  · exact List.mem_append_right _ (List.mem_of_getElem? (i := 253) rfl)
  · exact List.mem_append_right _ (List.mem_of_getElem? (i := 272) rfl)
  · exact List.mem_append_right _ (List.mem_of_getElem? (i := 741) rfl)
set_option maxRecDepth 100000 in
theorem xw_st1 : Cond.laysStatic "java/util/ArrayList" "DEFAULTCAPACITY_EMPTY_ELEMENTDATA" "[Ljava/lang/Object;" ∈ lw_tbl ∧ Cond.initialized "java/util/ArrayList" ∈ lw_tbl := ⟨List.mem_append_right _ (List.mem_of_getElem? (i := 63) rfl), List.mem_append_right _ (List.mem_of_getElem? (i := 5) rfl)⟩
set_option maxRecDepth 100000 in
theorem xw_st2 : Cond.laysStatic "java/lang/Throwable" "UNASSIGNED_STACK" "[Ljava/lang/StackTraceElement;" ∈ lw_tbl ∧ Cond.laysStatic "java/lang/Throwable" "SUPPRESSED_SENTINEL" "Ljava/util/List;" ∈ lw_tbl ∧ Cond.initialized "java/lang/Throwable" ∈ lw_tbl := ⟨List.mem_append_right _ (List.mem_of_getElem? (i := 200) rfl), List.mem_append_right _ (List.mem_of_getElem? (i := 202) rfl), List.mem_append_right _ (List.mem_of_getElem? (i := 8) rfl)⟩
def R_law : String := "ChannelNetLaw"
def lw_P (b : Addr) (xs : List Int32) (args : Array Value) (s : State) : Prop := args = #[.ref b] ∧ s.IntsAt b xs ∧ xs.length ≤ 3584 ∧ (Jvm.Cond.and given_1 narrow_1).before args s = true
def lw_Q (_ : Array Value) (s : State) (o : Outcome) (t : State) : Prop := o = .returned (some (.int 1)) ∧ Framed s o t [] 601024 7293034
def lw_Z (below : List Frame) (a : Array Value) (s : State) : State → Prop := fun t => ∃ o, t.status = .running ∧ Ended t below o ∧ lw_Q a s o t
/-- what holds at the law's entry -/
def lw_At (p : Program) (s : State) (m : MethodId) (meth : Method) (c : Code) (b L : Nat) (xs : Nat → Int32) : Prop :=
  p.tables.exec = Jvm.exec ∧ xIs mW s m meth c ∧ s.vm.findClass R_law = some m.cls ∧ (∀ w ∈ lw_tbl, w.before #[Value.ref b] s = true) ∧ va_X b L xs s s.heap ∧ b < s.heap.size ∧ (Jvm.Cond.and given_1 narrow_1).before #[Value.ref b] s = true
theorem whole_start {p : Program} {e : Env} {s : State} {m : MethodId} {below : List Frame} {meth : Method} {c : Code} (l : Launch) (hfl : l.flags = flags0) {b L : Nat} {xs : Nat → Int32} (hL : L ≤ 3584) (C0 : lw_At p s m meth c b L xs) : W p l e room_1 s m #[Value.ref b] below meth c s.heap [] 0 0 (lw_Z below #[Value.ref b] s) (entryFrame m ([Value.ref b] : List Value).toArray 8) := by
  obtain ⟨hx, hI, hown, hts, hX, hbl, hgv⟩ := C0
  have hs := flat_of_before _ hgv
  have hWS := xWS.of hts
  have hda : (Cond.arrayOf (.static "java/util/ArrayList" "DEFAULTCAPACITY_EMPTY_ELEMENTDATA" "[Ljava/lang/Object;") (.object "java/lang/Object")).before #[Value.ref b] s = true := hs _ (by decide +kernel)
  have hdl : (Cond.eq (.length (.static "java/util/ArrayList" "DEFAULTCAPACITY_EMPTY_ELEMENTDATA" "[Ljava/lang/Object;")) (.int 0)).before #[Value.ref b] s = true := hs _ (by decide +kernel)
  have hmr : (Cond.isRef (.mirror "[Ljava/lang/Object;")).before #[Value.ref b] s = true := hs _ (by decide +kernel)
  have hu1 : (Cond.isRef (.static "java/lang/Throwable" "UNASSIGNED_STACK" "[Ljava/lang/StackTraceElement;")).before #[Value.ref b] s = true := hs _ (by decide +kernel)
  have hu2 : (Cond.isRef (.static "java/lang/Throwable" "SUPPRESSED_SENTINEL" "Ljava/util/List;")).before #[Value.ref b] s = true := hs _ (by decide +kernel)
  have hstr : ∀ q ∈ xstrs, ∃ a, (Term.string "ChannelNet" q.1).eval #[Value.ref b] s none [] s = some (.ref a) := by
    intro q hq
    have : q = (287, "there is no such thing") ∨ q = (290, "a number is not as said") ∨ q = (294, "it can't be done as things are") ∨ q = (172, "no such what") := by
      simpa [xstrs] using hq
    rcases this with rfl | rfl | rfl | rfl
    · obtain ⟨a, _, _, _, h1, -⟩ := Cond.exactly_spec (show (Cond.exactly (.string "ChannelNet" 287) "java/lang/String").before #[Value.ref b] s = true from hs _ (by decide +kernel))
      exact ⟨a, h1⟩
    · obtain ⟨a, _, _, _, h1, -⟩ := Cond.exactly_spec (show (Cond.exactly (.string "ChannelNet" 290) "java/lang/String").before #[Value.ref b] s = true from hs _ (by decide +kernel))
      exact ⟨a, h1⟩
    · obtain ⟨a, _, _, _, h1, -⟩ := Cond.exactly_spec (show (Cond.exactly (.string "ChannelNet" 294) "java/lang/String").before #[Value.ref b] s = true from hs _ (by decide +kernel))
      exact ⟨a, h1⟩
    · obtain ⟨a, _, _, _, h1, -⟩ := Cond.exactly_spec (show (Cond.exactly (.string "ChannelNet" 172) "java/lang/String").before #[Value.ref b] s = true from hs _ (by decide +kernel))
      exact ⟨a, h1⟩
  have hnc : ∀ q ∈ xncs, va_Nc q.1 q.2 s := by
    intro q hq
    have : q = ("java/lang/IllegalArgumentException", "java/lang/IndexOutOfBoundsException") ∨ q = ("java/lang/IllegalStateException", "java/lang/IndexOutOfBoundsException") ∨ q = ("java/lang/IllegalStateException", "java/lang/IllegalArgumentException") ∨ q = ("java/lang/IllegalArgumentException", "java/lang/IllegalStateException") ∨ q = ("java/lang/IndexOutOfBoundsException", "java/lang/IllegalArgumentException") ∨ q = ("java/lang/IndexOutOfBoundsException", "java/lang/IllegalStateException") := by
      simpa [xncs] using hq
    rcases this with rfl | rfl | rfl | rfl | rfl | rfl
    · exact va_Nc.of (hs _ (by decide +kernel))
    · exact va_Nc.of (hs _ (by decide +kernel))
    · exact va_Nc.of (hs _ (by decide +kernel))
    · exact va_Nc.of (hs _ (by decide +kernel))
    · exact va_Nc.of (hs _ (by decide +kernel))
    · exact va_Nc.of (hs _ (by decide +kernel))
  obtain ⟨dc, dcell, d1, d2, d3⟩ := len0_spec hdl
  obtain ⟨d4, -⟩ := State.arrayAt?_spec d2
  obtain ⟨d5, d6⟩ := Cond.arrayOf_spec hda d1 d4
  obtain ⟨mv, m1, -⟩ := Cond.isRef_spec hmr
  obtain ⟨mc, mk, ma, m2, m3, m4, -⟩ := Term.mirror_spec m1
  obtain ⟨D, hKn, hD0, hD1⟩ := xD_of hWS dc ma
  obtain ⟨scr, s1, s2, s3, s4, s5⟩ := hX
  have hne : dc ≠ b := fun z => by
    subst z
    rw [s1] at d4
    cases d4
    obtain ⟨-, k1, e1, c1, f1⟩ := s2
    obtain ⟨-, k2, e2, c2, f2⟩ := d5
    rw [e1] at e2
    cases e2
    rw [f1] at f2
    cases f2
  have hold : ∀ a : Nat, a < s.heap.size → ¬ s.heap.size ≤ a := fun a h1 h2 => by omega
  have hslots : scr.slots = (vp_cell scr.cls (L, .inl xs)).slots := by
    rw [vp_cell_i]
    refine Array.ext_getElem? (fun i => ?_)
    rcases Nat.lt_or_ge i L with z | z
    · rw [s5 i z, arrV_read _ _ z]
    · rw [Array.getElem?_eq_none (by omega), Array.getElem?_eq_none (by rw [arrV_size]; omega)]
  have hdsl : dcell.slots = (vp_cell dcell.cls (0, .inr (.inr (.inr (.inr fun _ => none))))).slots := by
    rw [vp_cell_q, d3]
    exact (Array.eq_empty_of_size_eq_zero (arrV_size ..)).symm
  have key := w_start (D := D) (N0 := s.heap.size) (d := 0) (sc := b) (n := L) (f := xs) (K0 := fun q => if q = b then some (.inl (true, .int, L, .inl xs)) else if q = dc then some (.inl (true, .object "java/lang/Object", 0, .inr (.inr (.inr (.inr fun _ => none))))) else none)
    (h := (s.heap.size, 0, 0, fun q => if q = b then some (.inl (true, .int, L, .inl xs)) else if q = dc then some (.inl (true, .object "java/lang/Object", 0, .inr (.inr (.inr (.inr fun _ => none))))) else none)) (if_pos rfl) hL ⟨fun _ => none, by
      rw [hD0]
      exact (if_neg hne).trans (if_pos rfl)⟩ (fun q c hq => hq) rfl rfl
  have hent : (entryFrame m ([Value.ref b] : List Value).toArray 8) = F0 m 0 ((lg_sl [Value.ref b] ++ List.replicate (8 - (lg_sl [Value.ref b]).length) Slot.unset).toArray) [] := lg_entry_eq m [Value.ref b] _
  rw [hent]
  intro T hT X
  obtain ⟨i1, i2, i3, i4, i5, i6, i7, i8, i9, i10⟩ := hI
  have hH : xHp D s s.heap.size (s.heap.size, 0, 0, fun q => if q = b then some (.inl (true, .int, L, .inl xs)) else if q = dc then some (.inl (true, .object "java/lang/Object", 0, .inr (.inr (.inr (.inr fun _ => none))))) else none) s.heap := by
    refine ⟨rfl, fun a cx ha => ?_, Nat.le_refl _, ⟨vx_Zqof (hts _ xw_st2.1) (hts _ xw_st2.2.2) hu1 hold, vx_Zqof (hts _ xw_st2.2.1) (hts _ xw_st2.2.2) hu2 hold⟩, by rw [hD0]; exact va_Zof (hts _ xw_st1.1) (hts _ xw_st1.2) d1 hold⟩
    have ha' : (if a = b then some (.inl (true, .int, L, .inl xs)) else if a = dc then some (.inl (true, .object "java/lang/Object", 0, .inr (.inr (.inr (.inr fun _ => none))))) else none : Option XC) = some cx := ha
    by_cases z1 : a = b
    · rw [if_pos z1] at ha'
      cases ha'
      subst z1
      exact ⟨⟨scr, s1, hslots, s3, s2⟩, fun z => by cases z⟩
    · rw [if_neg z1] at ha'
      by_cases z2 : a = dc
      · rw [if_pos z2] at ha'
        cases ha'
        subst z2
        exact ⟨⟨dcell, d4, hdsl, d6, d5⟩, fun z => by cases z⟩
      · rw [if_neg z2] at ha'
        cases ha'
  obtain ⟨t, t1, o, u, L', k, n, e1, e2, e3, e4, e5, e6, e7⟩ := key p l e room_1 s m #[Value.ref b] below meth c s.heap [] 0 0 _
    ⟨hx, i4, i5, i6, i7, i8, i9, hown, hWS, hKn, by decide, by decide, mW_ok, hfl, fun q hq => (hstr q hq).imp fun a ha => vk_R.of (hts _ (xw_str q hq)) ha, hnc, ⟨mc, mk, m2, m3, by rw [hD1]; exact m4⟩⟩ hH
    ⟨fun q hq => (nomatch hq), Nat.zero_le _, Nat.zero_le _, by show 601024 + 0 ≤ 601024 + 0; omega, by show 7293034 + 0 ≤ 7293034 + 0; omega⟩ (xLs_args [Value.ref b] (by show 1 ≤ 8; omega)) T hT X
  refine ⟨t, t1, o, e1, e2, e7, ⟨some (.int 1), e7⟩, e3, ?_⟩
  have e4' : s.sameButNew ({ t with vm := s.vm } : State) ([] ++ L') k n := e4
  exact (e4'.drop_fresh e6.1).mono e6.2.1 e6.2.2.1
