/- Part 11c: throwing a new exception with a text; catching. -/
section X11c
variable {D : va_G} {N0 : Nat} {M : XM} {d pc : Nat} {lv : XL} {st : List Value} {h : XH} {Q : Outcome → XH → Prop}
theorem xT.catch {a ci : Nat} {q : vw_C} {fs : List Value} {nm : String} (pre : List ExceptionTableEntry) (x : ExceptionTableEntry) (suf : List ExceptionTableEntry) (hsplit : tableOf M.2.2.2.2.1 = pre ++ x :: suf) (ha : xget h a = some (.inr (ci, fs))) (hc : xcl[ci]? = some q)
    (hpass : ∀ z ∈ pre, covers z pc = false ∨ (z.catchType ≠ 0 ∧ ∃ n2 : String, xW (.classLink M.1.cls z.catchType n2) ∧ (q.1, n2) ∈ xncs)) (hx : covers x pc = true) (h0 : x.catchType ≠ 0) (hw : xW (.classLink M.1.cls x.catchType nm) ∧ xW (.castable q.1 nm))
    (k : xV D N0 M d x.handlerPc lv [.ref a] h Q) : xT D N0 M d pc lv a h Q := by
  intro p l e R s m args below meth c T locs cells slots ls st C hH hR hL X
  have hWS := C.2.2.2.2.2.2.2.2.1
  obtain ⟨r1, g0, cell, g1, g2, g3, -⟩ := (hH.2.1 a _ ha).1
  exact vx_catch (ls := ls) (rest := st) C.2.2.2.2.2.2.2.1 pre x suf (C.2.2.2.1.trans hsplit) (fun z hz => (hpass z hz).imp id fun ⟨z1, n2, z2, z3⟩ => ⟨z1, n2, hWS _ z2 args, C.2.2.2.2.2.2.2.2.2.2.2.2.2.2.2.1 _ z3⟩) hx h0 (hWS _ hw.1 args) (hWS _ hw.2 args) g1 g3
    (by rw [g2]; exact (C.2.2.2.2.2.2.2.2.2.1.1 ci q hc).2.1) (k p l e R s m args below meth c T.heap locs cells slots ls C hH hR hL) T rfl X
set_option maxHeartbeats 4000000 in
theorem xV.throw {ik is ic p1 p2 p3 p4 p5 ci : Nat} {cls text : String} {TE : u_T} {names : List String} {rest : List Value}
    (q0 : xon M pc = some (.new ik, p1)) (q1 : xon M p1 = some (.dup, p2)) (q2 : xon M p2 = some (.ldc is, p3) ∨ xon M p2 = some (.ldc_w is, p3)) (q3 : xon M p3 = some (.invokespecial ic, p4)) (q4 : xon M p4 = some (.athrow, p5))
    (hE : xcl[ci]? = some (cls, TE, 0)) (hcls : Bundle.fit cls = true) (hnames : ∀ n ∈ names, Bundle.fit n = true) (hk : xW (.classLink M.1.cls ik cls)) (hini : xW (.initialized cls)) (hat : ∀ w ∈ vx_atS M.1.cls ic cls names, xW w) (hown : M.1.cls = "ChannelNet") (hstr : (is, text) ∈ xstrs)
    (hout : (tableOf M.2.2.2.2.1).all (fun x => !covers x p4) = true) (hd : names.length + 4 ≤ d) (hcat : (rest.map fun v => v.category).sum ≤ 64) (hc1 : h.2.1 + 1 ≤ xCmax) (hc2 : h.2.2.1 + 6 ≤ xSmax)
    (hQ : Q (.threw h.1) (xnew h (.inr (ci, [])) 6)) : xV D N0 M d pc lv rest h Q := by
  intro p l e R s m args below meth c H locs cells slots ls C hH hR hL T hT X
  subst hT
  have hok := C.2.2.2.2.2.2.2.2.2.2.2.2.1
  obtain ⟨_, _, _, _, k0⟩ := xon_spec hok q0
  obtain ⟨d0, e0, i0⟩ := xchk_dec k0
  obtain rfl := Nat.eq_of_beq_eq_true i0
  obtain ⟨_, _, _, _, k1⟩ := xon_spec hok q1
  obtain ⟨d1, e1, i1⟩ := xchk_dec k1
  obtain rfl := Nat.eq_of_beq_eq_true i1
  obtain ⟨_, _, _, _, k3⟩ := xon_spec hok q3
  obtain ⟨d3, e3, i3⟩ := xchk_dec k3
  obtain rfl := Nat.eq_of_beq_eq_true i3
  obtain ⟨_, _, _, _, k4⟩ := xon_spec hok q4
  obtain ⟨d4, -, i4⟩ := xchk_dec k4
  obtain rfl := Nat.eq_of_beq_eq_true i4
  subst e0; subst e1; subst e3
  have hb := C.2.1
  have hexec := C.1
  have hWS := C.2.2.2.2.2.2.2.2.1
  have hlocks := C.2.2.2.2.1
  have hfr := C.2.2.2.2.2.2.2.2.2.2.1
  have hlo := C.2.2.2.2.2.2.2.2.2.2.2.1
  have htr : e.platform.stackTraces = false := Launch.traces_off C.2.2.2.2.2.2.2.2.2.2.2.2.2.1 X.admits
  obtain ⟨r1, r2, r3⟩ := hR.new (c := .inr (ci, [])) hc1 hc2
  have Y := vx_rebase X (R' := { frames := R.frames, locals := R.locals, cells := 1, slots := 6 }) (Nat.le_refl _) (Nat.le_refl _) r1 r2
  obtain ⟨s', hA⟩ : ∃ z, z = (T.setVm s.vm).setFrames (.invoking m args :: below) := ⟨_, rfl⟩
  rw [← hA] at Y
  have hvm : s'.vm = s.vm := by rw [hA]; rfl
  have hhp : s'.heap = T.heap := by rw [hA]; rfl
  have hW0 : s.WarmedH s'.vm := by rw [hvm]; exact State.WarmedH.refl s
  have hWS' : xWS s' := hWS.moved hW0
  obtain ⟨hU, hN⟩ : xZs N0 s' s'.heap := by rw [hhp]; exact (hH.2.2.2.moved hW0.alike).1
  have hall : ∀ w ∈ Bundle.ownAtoms M.1.cls ic cls names, w.before args s' = true := vx_own (fun w hw => hWS' _ (hat w hw) args) (vx_isRefq hU.1) (vx_isRefq hN.1) hU.2.word hN.2.word
  have hown' : s'.vm.findClass M.1.cls = some m.cls := by rw [hvm]; exact C.2.2.2.2.2.2.2.1
  have hins : (Cond.instantiable cls 6).before args s' = true := hall _ (by simp [Bundle.ownAtoms])
  obtain ⟨vm₁, cX, kX, hfX, hkX, -, -, X₁, st1⟩ := Y.newCold hexec (own := M.1.cls) (C := cls) (index := ik) (n := 6) hown' (hWS' _ hk args) hins (hWS' _ hini args)
    (g := F0 m pc ls rest) rfl (by rw [hb]; exact d0) (Nat.le_refl _) (Nat.le_refl _)
  generalize hT1 : (T.setVm vm₁).pushCell { cls := cX, slots := kX.instanceTypes.map defaultValue, vm := .none } = T1 at X₁ st1
  have hcellA : T1.heap[T.heap.size]? = some (freshCell cX kX) := by rw [← hT1]; exact State.heap_pushCell_size _ _
  have d1' : decode c.code (pc + 3) = .ok (.dup, 1) := by rw [hb]; exact d1
  obtain ⟨sa, hsa⟩ := (C.2.2.2.2.2.2.2.2.2.2.2.2.2.2.moved hW0).1 _ hstr
  have hsa' : vk_R M.1.cls is text sa s' := by rw [hown]; exact hsa
  have hsize : ls.size = c.maxLocals := by rw [C.2.2.1]; exact hL.2.1
  obtain ⟨U, hsteps, hrun, hend, hW, hsame, ce, hce, hO⟩ := X₁.ctorThrowS hexec htr (own := M.1.cls) (cls := cls) (names := names) (ic := ic) hown' hcls hnames hall (fun x hx => nomatch hx) hfX hkX hcellA (by rw [hhp]; exact Nat.le_refl _) (msg := .ref sa) rfl
    (g := { method := m, pc := p3, locals := ls, stack := .ref sa :: .ref T.heap.size :: .ref T.heap.size :: rest, locked := none }) rfl hsize rfl rfl (rest := rest) rfl
    (by rw [hb]; exact d3) (by rw [hb]; exact d4) (outside_of_table C.2.2.2.1 hout) (by show names.length + 3 < R.frames; omega)
    (by show 2 * 0 + ((Value.ref T.heap.size :: rest).map fun v => v.category).sum + (13 * (names.length + 1) + 42) ≤ R.locals; simp only [List.map_cons, List.sum_cons]; have : (Value.ref T.heap.size).category = 1 := rfl; omega) hlocks
  obtain ⟨f1, f2⟩ := vx_frame hsame
  rw [hhp] at f1 f2
  have hWs : s.WarmedH U.vm := State.WarmedH.trans hW0 hW
  have hsz : U.heap.size = T.heap.size + 1 := by
    have g1 : U.heap.size ≤ s'.heap.size + (0 + 1) := hsame.2.2.1
    have g2 := (Array.getElem?_eq_some_iff.mp hce).1
    rw [hhp] at g1
    omega
  have hcl2 : ce.cls = D.1 ci := by
    have g1 := hO.cls
    rw [hvm] at g1
    exact Option.some.inj (g1.symm.trans (C.2.2.2.2.2.2.2.2.2.1.1 ci _ hE).2.1)
  have hall2 : s.sameButNew ({ U with vm := s.vm } : State) locs (cells + 1) (slots + 6) := by
    subst hA
    obtain ⟨z1, z2⟩ := hsame
    rw [State.setFrames_setFrames] at z1
    have h2 : (T.setVm s.vm).sameButNew ({ U with vm := s.vm } : State) [] (0 + 1) (0 + 6) := ⟨z1, z2⟩
    have h3 := X.same.trans h2
    rw [List.append_nil] at h3
    exact h3.mono (by omega) (by omega)
  have hHp : xHp D s N0 (xnew h (.inr (ci, [])) 6) U.heap := hH.push hsz (fun q hq => f2 q hq (fun z hz => nomatch hz)) ⟨_, hE, ce, by rw [← hH.1]; exact hce, hcl2, hO.vm, fun j hj => absurd hj (Nat.not_lt_zero j)⟩
  refine ⟨U, ?_, .threw h.1, _, locs, cells + 1, slots + 6, hrun, by rw [← hH.1]; exact hend, hWs, hall2, hHp, r3, hQ⟩
  refine st1 _ ?_
  show Steps p.tables e below (T1.setTop { method := m, pc := pc + 3, locals := ls, stack := .ref T.heap.size :: rest, locked := none }) _
  jvm_step X₁.here [X₁.here.top, hexec, d1', Value.category]
  rcases q2 with q2 | q2
  · obtain ⟨_, _, _, _, k2⟩ := xon_spec hok q2
    obtain ⟨d2, e2, i2⟩ := xchk_dec k2
    simp only [xchi, Bool.and_eq_true] at i2
    obtain rfl := Nat.eq_of_beq_eq_true i2.1
    subst e2
    exact X₁.ldcString hexec (own := M.1.cls) (text := text) (index := is) (a := sa) hown' hsa'.1 hsa'.2
      (g := { method := m, pc := pc + 3 + 1, locals := ls, stack := .ref T.heap.size :: .ref T.heap.size :: rest, locked := none }) rfl (by rw [hb]; exact d2) _ hsteps
  · obtain ⟨_, _, _, _, k2⟩ := xon_spec hok q2
    obtain ⟨d2, e2, i2⟩ := xchk_dec k2
    simp only [xchi, Bool.and_eq_true] at i2
    obtain rfl := Nat.eq_of_beq_eq_true i2.1
    subst e2
    exact X₁.ldcStringW hexec (own := M.1.cls) (text := text) (index := is) (a := sa) hown' hsa'.1 hsa'.2
      (g := { method := m, pc := pc + 3 + 1, locals := ls, stack := .ref T.heap.size :: .ref T.heap.size :: rest, locked := none }) rfl (by rw [hb]; exact d2) _ hsteps
end X11c
