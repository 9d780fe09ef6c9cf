/- Part 09: new objects and arrays, calls. -/
def xsp : Nat → List Value → List Value → Option (List Value × List Value)
  | 0, st, acc => some (acc, st)
  | n + 1, v :: st, acc => xsp n st (v :: acc)
  | _ + 1, [], _ => none
theorem xsp_gen (n : Nat) : ∀ (st acc as rest : List Value), xsp n st acc = some (as, rest) → acc.reverse ++ st = as.reverse ++ rest ∧ as.length = n + acc.length := by
  induction n with
  | zero =>
    intro st acc as rest h
    simp only [xsp, Option.some.injEq, Prod.mk.injEq] at h
    obtain ⟨rfl, rfl⟩ := h
    exact ⟨rfl, by omega⟩
  | succ n ih =>
    intro st acc as rest h
    cases st with
    | nil => cases h
    | cons v t =>
      obtain ⟨h1, h2⟩ := ih t (v :: acc) as rest h
      refine ⟨?_, by rw [h2, List.length_cons]; omega⟩
      rw [← h1]; simp
theorem xsp_spec {n : Nat} {st as rest : List Value} (h : xsp n st [] = some (as, rest)) : st = as.reverse ++ rest ∧ as.length = n := by
  obtain ⟨h1, h2⟩ := xsp_gen n st [] as rest h
  exact ⟨by simpa using h1, by simpa using h2⟩
def xnp (y : MethodName) (n : Nat) : Bool := decide ((parseMethodDescriptor y.desc).map (fun g => g.parameters.length) = some n) && decide (y.cls ≠ "java/lang/invoke/MethodHandle" ∧ y.cls ≠ "java/lang/invoke/VarHandle")
def xcs (M M2 : XM) (idx n : Nat) : Prop := xW (.methodLink M.1.cls idx M2.1) ∧ xW (.static M2.1) ∧ xW (.initialized M2.1.cls) ∧ xW (xcw M2) ∧ xnp M2.1 n = true
def xcv (C : String) (M M2 : XM) (idx n : Nat) : Prop := xW (.methodLink M.1.cls idx M2.1) ∧ xW (.instanceMethod M2.1) ∧ xW (.selects C M2.1 M2.1) ∧ xW (xcw M2) ∧ xnp M2.1 n = true
def xci (M M2 : XM) (idx n : Nat) : Prop := xW (.methodLink M.1.cls idx M2.1) ∧ xW (.instanceMethod M2.1) ∧ xW (.code M2.1 M2.2.1 M2.2.2.1 none) ∧ (M2.2.2.2.1 = none ∧ M2.2.2.2.2.1 = [] ∧ M2.1.name = "<init>") ∧ xnp M2.1 n = true
theorem xnp_spec {y : MethodName} {n : Nat} (h : xnp y n = true) : (∀ sig, parseMethodDescriptor y.desc = some sig → n = sig.parameters.length) ∧ (y.cls ≠ "java/lang/invoke/MethodHandle" ∧ y.cls ≠ "java/lang/invoke/VarHandle") := by
  unfold xnp at h
  rw [Bool.and_eq_true] at h
  have h1 := of_decide_eq_true h.1
  refine ⟨fun sig hs => ?_, of_decide_eq_true h.2⟩
  rw [hs] at h1
  exact (Option.some.inj h1).symm
section X9
variable {D : va_G} {N0 : Nat} {M : XM} {d pc : Nat} {lv : XL} {st : List Value} {h : XH} {Q : Outcome → XH → Prop}
theorem xV.newa {at0 : ArrayType} {ty : FieldType} {n : Int32} {N nx : Nat} {A0 : vp_A} {r : List Value} (hq : xon M pc = some (.newarray at0, nx)) (hty : newarray.typeOf at0 = ty) (hw : xW (.arrayClass ty)) (hA : ∀ cA : ClassId, vp_cell cA A0 = arrV cA N (fun _ => defaultValue ty)) (hra : ∀ (U : State) (cA : ClassId), U.vm.findClass ("[" ++ ty.toString) = some cA → va_RA U cA ty)
    (hn : ¬ n < 0) (hN : n.toNatClampNeg = N) (hb : N * componentBytes ty ≤ 536870912) (hc1 : h.2.1 + 1 ≤ xCmax) (hc2 : h.2.2.1 + N ≤ xSmax) (k : xV D N0 M d nx lv (.ref h.1 :: r) (xnew h (.inl (false, ty, A0)) N) Q) : xV D N0 M d pc lv (.int n :: r) h Q := by
  intro p l e R s m args below meth c H locs cells slots ls C hH hR hL
  obtain ⟨len, tg, cv, wi, hk⟩ := xon_spec C.2.2.2.2.2.2.2.2.2.2.2.2.1 hq
  obtain ⟨hd, rfl, hi⟩ := xchk_dec hk
  obtain rfl := Nat.eq_of_beq_eq_true hi
  subst hty
  obtain ⟨r1, r2, r3⟩ := hR.new (c := .inl (false, newarray.typeOf at0, A0)) hc1 hc2
  refine va_newaK C.1 C.2.1 (C.2.2.2.2.2.2.2.2.1 _ hw args) rfl hd rfl hn hN hb r1 r2 hH.1 fun H1 cA e1 z1 o1 hAr hNm => ?_
  refine k p l e R s m args below meth c H1 locs _ _ ls C (hH.push (by rw [z1, hH.1]) (fun q hq => o1 q (by rw [← hH.1]; exact hq)) ⟨cA, ?_, hAr, hra s cA hNm⟩) r3 hL
  rw [e1, hA]
theorem xV.callS {M2 : XM} {idx nx n : Nat} {as rest : List Value} {Q2 : Outcome → XH → Prop} (hq : xon M pc = some (.invokestatic idx, nx)) (hst : xsp n st [] = some (as, rest)) (hw : xcs M M2 idx n) (hok2 : xOK M2 = true) (hsz : (lg_sl as).length ≤ M2.2.2.1) (hcat : (rest.map fun v => v.category).sum + (M2.2.2.1 + 11) ≤ 64)
    (hcon : xV D N0 M2 d 0 (xargs M2.2.2.1 as) [] h Q2) (kr : ∀ v u, Q2 (.returned v) u → xV D N0 M (d + 1) nx lv (v.toList ++ rest) u Q) (kt : ∀ a u, Q2 (.threw a) u → xT D N0 M (d + 1) pc lv a u Q) : xV D N0 M (d + 1) pc lv st h Q := by
  intro p l e R s m args below meth c H locs cells slots ls C hH hR hL T hT X
  obtain ⟨len, tg, cv, wi, hk⟩ := xon_spec C.2.2.2.2.2.2.2.2.2.2.2.2.1 hq
  obtain ⟨hd, hnx, hi⟩ := xchk_dec hk
  obtain rfl := Nat.eq_of_beq_eq_true hi
  obtain ⟨rfl, hlen⟩ := xsp_spec hst
  subst hT
  obtain ⟨w1, w2, w3, w4, w6⟩ := hw
  have hWS := C.2.2.2.2.2.2.2.2.1
  obtain ⟨mk, methk, ck, hI⟩ := xIs_of (hWS _ w4 args)
  obtain ⟨p1, p2⟩ := xnp_spec w6
  have hstat : methk.isStatic = true := Cond.static_spec hI.1 hI.2.1 (hWS _ w2 args)
  obtain ⟨kP, hkP, -⟩ := className_of_methodNamed hI.1
  have hinitP : kP.init = .initialized := Cond.initialized_spec (findClass_of_methodNamed hI.1) hkP (hWS _ w3 args)
  have hd' : decode c.code pc = .ok (.invokestatic idx, 3) := by rw [C.2.1]; exact hd
  obtain ⟨vm₁, X₁, hstep⟩ := X.invokestatic C.1 C.2.2.2.2.2.2.2.1 (hWS _ w1 args) hI.1 hI.2.1 hstat hkP hinitP p2 (g := F0 m pc ls (as.reverse ++ rest)) rfl (argsL := as) (rest := rest) (hlen.trans (p1 _ hI.2.2.2.2.2.2.2.2.2)) rfl hd'
  obtain ⟨t, h1, h2⟩ := xcallW (T := T.setVm vm₁) hcon kr kt hok2 hsz hcat C hH hR hL X₁ hd' hnx hI
  exact ⟨t, hstep t (fun acts => by rw [doInvoke_state]; exact h1), h2⟩
theorem xV.callV {M2 : XM} {idx nx n b ci : Nat} {q : vw_C} {fs as rest : List Value} {Q2 : Outcome → XH → Prop} (hq : xon M pc = some (.invokevirtual idx, nx)) (hst : xsp (n + 1) st [] = some (.ref b :: as, rest)) (hb : xget h b = some (.inr (ci, fs))) (hc : xcl[ci]? = some q) (hw : xcv q.1 M M2 idx n) (hok2 : xOK M2 = true) (hsz : (lg_sl (.ref b :: as)).length ≤ M2.2.2.1) (hcat : (rest.map fun v => v.category).sum + (M2.2.2.1 + 11) ≤ 64)
    (hcon : xV D N0 M2 d 0 (xargs M2.2.2.1 (.ref b :: as)) [] h Q2) (kr : ∀ v u, Q2 (.returned v) u → xV D N0 M (d + 1) nx lv (v.toList ++ rest) u Q) (kt : ∀ a u, Q2 (.threw a) u → xT D N0 M (d + 1) pc lv a u Q) : xV D N0 M (d + 1) pc lv st h Q := by
  intro p l e R s m args below meth c H locs cells slots ls C hH hR hL T hT X
  obtain ⟨len, tg, cv, wi, hk⟩ := xon_spec C.2.2.2.2.2.2.2.2.2.2.2.2.1 hq
  obtain ⟨hd, hnx, hi⟩ := xchk_dec hk
  obtain rfl := Nat.eq_of_beq_eq_true hi
  obtain ⟨rfl, hlen⟩ := xsp_spec hst
  subst hT
  obtain ⟨w1, w2, w3, w4, w6⟩ := hw
  have hWS := C.2.2.2.2.2.2.2.2.1
  have hKn := C.2.2.2.2.2.2.2.2.2.1
  obtain ⟨mk, methk, ck, hI⟩ := xIs_of (hWS _ w4 args)
  obtain ⟨p1, p2⟩ := xnp_spec w6
  obtain ⟨mk', methM, hnamed, hmethM, hstM, habM⟩ := Cond.instanceMethod_spec (hWS _ w2 args)
  cases hI.1.symm.trans hnamed
  cases hI.2.1.symm.trans hmethM
  obtain ⟨r1, g1, cell, g2, g3, g4, -⟩ := (hH.2.1 b _ hb).1
  have hcls : s.vm.findClass q.1 = some cell.cls := by rw [g3]; exact (hKn.1 ci q hc).2.1
  have hobj : cell.vm.isStatics = false := by rw [g4]; rfl
  obtain ⟨c2, r2, m2, q1, q2, q3, q4, kP, hkP, hkPi⟩ := Cond.selects_spec (hWS _ w3 args)
  cases hcls.symm.trans q1
  cases (State.methodFound?_of_named hnamed p2).symm.trans q2
  cases hnamed.symm.trans q3
  have hselP : selectMethod e.platform s.vm cell.cls mk = .method mk := by rw [Launch.admits_selectMethod X.admits]; exact q4
  have hd' : decode c.code pc = .ok (.invokevirtual idx, 3) := by rw [C.2.1]; exact hd
  obtain ⟨vm₁, X₁, hstep⟩ := X.invokevirtual C.1 C.2.2.2.2.2.2.2.1 (hWS _ w1 args) hnamed hmethM hstM hkP hkPi p2 (a := b) (cell := cell) g2
    (fun z h => by rw [h] at hobj; cases hobj) hselP hmethM habM hkP hkPi (g := F0 m pc ls ((Value.ref b :: as).reverse ++ rest)) rfl (argsL := as) (rest := rest) ((Nat.succ.inj (by simpa using hlen)).trans (p1 _ hI.2.2.2.2.2.2.2.2.2)) (by simp) hd'
  obtain ⟨t, h1, h2⟩ := xcallW (T := T.setVm vm₁) hcon kr kt hok2 hsz hcat C hH hR hL X₁ hd' hnx hI
  exact ⟨t, hstep t (fun acts => by rw [doInvoke_state]; exact h1), h2⟩
theorem xV.callI {M2 : XM} {idx nx n b : Nat} {as rest : List Value} {Q2 : Outcome → XH → Prop} (hq : xon M pc = some (.invokespecial idx, nx)) (hst : xsp (n + 1) st [] = some (.ref b :: as, rest)) (hw : xci M M2 idx n) (hok2 : xOK M2 = true) (hsz : (lg_sl (.ref b :: as)).length ≤ M2.2.2.1) (hcat : (rest.map fun v => v.category).sum + (M2.2.2.1 + 11) ≤ 64)
    (hcon : xV D N0 M2 d 0 (xargs M2.2.2.1 (.ref b :: as)) [] h Q2) (kr : ∀ v u, Q2 (.returned v) u → xV D N0 M (d + 1) nx lv (v.toList ++ rest) u Q) (kt : ∀ a u, Q2 (.threw a) u → xT D N0 M (d + 1) pc lv a u Q) : xV D N0 M (d + 1) pc lv st h Q := by
  intro p l e R s m args below meth c H locs cells slots ls C hH hR hL T hT X
  obtain ⟨len, tg, cv, wi, hk⟩ := xon_spec C.2.2.2.2.2.2.2.2.2.2.2.2.1 hq
  obtain ⟨hd, hnx, hi⟩ := xchk_dec hk
  obtain rfl := Nat.eq_of_beq_eq_true hi
  obtain ⟨rfl, hlen⟩ := xsp_spec hst
  subst hT
  obtain ⟨w1, w2, w4, ⟨v1, v2, v3⟩, w6⟩ := hw
  have hWS := C.2.2.2.2.2.2.2.2.1
  have hcw : xcw M2 = .code M2.1 M2.2.1 M2.2.2.1 none := by unfold xcw; rw [v2, v1]
  obtain ⟨mk, methk, ck, hI⟩ := xIs_of (M := M2) (by rw [hcw]; exact hWS _ w4 args)
  obtain ⟨p1, p2⟩ := xnp_spec w6
  have hpl : e.platform.magicAccessors = ({} : Platform).magicAccessors := by rw [X.admits.platform]
  have hd' : decode c.code pc = .ok (.invokespecial idx, 3) := by rw [C.2.1]; exact hd
  obtain ⟨mk', methM, cM, kP, vm₁, hnamed, hmethM, hcodeM, -, hlocalsM, -, hkP, -, hW₁, hstep⟩ := Steps.initColdArgs (e := e) X.here C.1 X.warmed hpl C.2.2.2.2.2.2.2.1 v3 p2 (hWS _ w1 args) (hWS _ w2 args) (hWS _ w4 args) (f := F0 m pc ls ((Value.ref b :: as).reverse ++ rest)) rfl (a := b) (argsL := as) (rest := rest) (fun sig hs => (Nat.succ.inj (by simpa using hlen)).trans (p1 sig hs)) (by simp) hd'
  cases hI.1.symm.trans hnamed
  have X₁ := X.noted hW₁
  obtain ⟨t, h1, h2⟩ := xcallW (T := T.setVm vm₁) hcon kr kt hok2 hsz hcat C hH hR hL X₁ hd' hnx hI
  exact ⟨t, hstep t (fun acts => by rw [doInvoke_state]; exact h1), h2⟩
theorem xV.obj {idx nx b : Nat} {r : List Value} (hq : xon M pc = some (.invokespecial idx, nx)) (hw : xW (.methodLink M.1.cls idx Lib.objectInit) ∧ xW (.instanceMethod Lib.objectInit) ∧ xW (.code Lib.objectInit ⟨#[0xb1]⟩ 1 none)) (hcat : (r.map fun v => v.category).sum + 12 ≤ 64) (k : xV D N0 M (d + 1) nx lv r h Q) : xV D N0 M (d + 1) pc lv (.ref b :: r) h Q := by
  intro p l e R s m args below meth c H locs cells slots ls C hH hR hL
  obtain ⟨len, tg, cv, wi, hk⟩ := xon_spec C.2.2.2.2.2.2.2.2.2.2.2.2.1 hq
  obtain ⟨hd, rfl, hi⟩ := xchk_dec hk
  obtain rfl := Nat.eq_of_beq_eq_true hi
  obtain ⟨w1, w2, w3⟩ := hw
  have hWS := C.2.2.2.2.2.2.2.2.1
  have c11 := C.2.2.2.2.2.2.2.2.2.2.1
  have c12 := C.2.2.2.2.2.2.2.2.2.2.2.1
  exact W.objInit C.1 C.2.1 C.2.2.2.2.2.2.2.1 (hWS _ w1 args) (hWS _ w2 args) (hWS _ w3 args) rfl (by show ls.size = c.maxLocals; rw [C.2.2.1]; exact hL.2.1) rfl hd (by omega) (by show 2 * 0 + _ + 12 ≤ R.locals; omega) (k p l e R s m args below meth c H locs cells slots ls C hH hR hL)
end X9
