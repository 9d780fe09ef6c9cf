/- Part 11b: new objects, division, switches, casts, arrays of references, constructors of nest mates. -/
section X11
variable {D : va_G} {N0 : Nat} {M : XM} {d pc : Nat} {lv : XL} {st : List Value} {h : XH} {Q : Outcome → XH → Prop}
theorem xhts {s : State} (hcl : xclOK = true) (hWS : xWS s) {ci : Nat} {q : vw_C} (hc : xcl[ci]? = some q) (args : Array Value) : ∀ w ∈ u_ws q.1 q.2.1 q.2.2, w.before args s = true := fun w hw => by
  obtain ⟨j, hj, rfl⟩ := List.mem_map.mp hw
  exact hWS _ (xcl1_k (xcl1_of hcl hc) (List.mem_range.mp hj)).1 args
def xdf (ci : Nat) : List Value := (xct ci).map defaultValue
theorem xV.new (hcl : xclOK = true) {idx nx ci : Nat} {q : vw_C} (hq : xon M pc = some (.new idx, nx)) (hc : xcl[ci]? = some q) (hw : xW (.classLink M.1.cls idx q.1) ∧ xW (.instantiable q.1 q.2.2) ∧ xW (.initialized q.1))
    (hc1 : h.2.1 + 1 ≤ xCmax) (hc2 : h.2.2.1 + q.2.2 ≤ xSmax) (k : xV D N0 M d nx lv (.ref h.1 :: st) (xnew h (.inr (ci, xdf ci)) q.2.2) Q) : xV D N0 M d pc lv st h Q := by
  intro p l e R s m args below meth c H locs cells slots ls C hH hR hL
  obtain ⟨len, tg, cv, wi, hk⟩ := xon_spec C.2.2.2.2.2.2.2.2.2.2.2.2.1 hq
  obtain ⟨hd, rfl, hi⟩ := xchk_dec hk
  obtain rfl := Nat.eq_of_beq_eq_true hi
  have hWS := C.2.2.2.2.2.2.2.2.1
  have hKn := C.2.2.2.2.2.2.2.2.2.1.1 ci q hc
  have hok := xcl1_of hcl hc
  obtain ⟨r1, r2, r3⟩ := hR.new (c := .inr (ci, xdf ci)) hc1 hc2
  refine W.newcK C.1 C.2.1 C.2.2.2.2.2.2.2.1 (hWS _ hw.1 args) (hWS _ hw.2.1 args) (hWS _ hw.2.2 args) rfl hd r1 r2 hKn.2.1 hH.1 fun H1 kC hkC e1 z1 o1 => ?_
  refine k p l e R s m args below meth c H1 locs _ _ ls C (hH.push (by rw [z1, hH.1]) (fun q hq => o1 q (by rw [← hH.1]; exact hq)) ⟨q, hc, ?_⟩) r3 hL
  refine (u_born (fun j => (xct ci).getD j .int) (xhts hcl hWS hc args) (fun w h => h) hKn hkC e1 (fun j hj => ?_)).to (fun j hj => ?_)
  · obtain ⟨-, g3, hlt, -⟩ := xcl1_k hok hj
    rw [g3]
    simp [List.getD_eq_getElem?_getD, hlt]
  · obtain ⟨-, -, hlt, -⟩ := xcl1_k hok hj
    simp [vp_V, xdf, List.getD_eq_getElem?_getD, hlt]
theorem xV.ldiv {nx : Nat} {x y : Int64} {r : List Value} (hq : xon M pc = some (.ldiv, nx)) (hy : ¬ y = 0) (k : xV D N0 M d nx lv (.long (x / y) :: r) h Q) : xV D N0 M d pc lv (.long y :: .long x :: r) h Q := by
  intro p l e R s m args below meth c H locs cells slots ls C hH hR hL
  obtain ⟨len, tg, cv, wi, hk⟩ := xon_spec C.2.2.2.2.2.2.2.2.2.2.2.2.1 hq
  obtain ⟨hd, rfl, hi⟩ := xchk_dec hk
  obtain rfl := Nat.eq_of_beq_eq_true hi
  exact lv_ldiv C.1 C.2.1 hd hy (k p l e R s m args below meth c H locs cells slots ls C hH hR hL)
theorem xV.tIn {nx tgt : Nat} {dflt lo hi off : Int} {offs : Array Int} {x : Int32} {r : List Value} (hq : xon M pc = some (.tableswitch dflt lo hi offs, nx)) (h1 : ¬ x.toInt < lo) (h2 : ¬ hi < x.toInt) (ho : offs[(x.toInt - lo).toNat]? = some off) (ht : (pc : Int) + off = (tgt : Int)) (k : xV D N0 M d tgt lv r h Q) : xV D N0 M d pc lv (.int x :: r) h Q := by
  intro p l e R s m args below meth c H locs cells slots ls C hH hR hL
  obtain ⟨len, tg, cv, wi, hk⟩ := xon_spec C.2.2.2.2.2.2.2.2.2.2.2.2.1 hq
  obtain ⟨hd, -, hi⟩ := xchk_dec hk
  exact lv_tableIn C.1 C.2.1 hd h1 h2 ho ht (k p l e R s m args below meth c H locs cells slots ls C hH hR hL)
theorem xV.tOut {nx tgt : Nat} {dflt lo hi : Int} {offs : Array Int} {x : Int32} {r : List Value} (hq : xon M pc = some (.tableswitch dflt lo hi offs, nx)) (h1 : x.toInt < lo ∨ hi < x.toInt) (ht : (pc : Int) + dflt = (tgt : Int)) (k : xV D N0 M d tgt lv r h Q) : xV D N0 M d pc lv (.int x :: r) h Q := by
  intro p l e R s m args below meth c H locs cells slots ls C hH hR hL
  obtain ⟨len, tg, cv, wi, hk⟩ := xon_spec C.2.2.2.2.2.2.2.2.2.2.2.2.1 hq
  obtain ⟨hd, -, hi⟩ := xchk_dec hk
  exact lv_tableOut C.1 C.2.1 hd h1 ht (k p l e R s m args below meth c H locs cells slots ls C hH hR hL)
theorem xV.cast {idx nx a ci : Nat} {q : vw_C} {nm : String} {fs r : List Value} (hq : xon M pc = some (.checkcast idx, nx)) (ha : xget h a = some (.inr (ci, fs))) (hc : xcl[ci]? = some q) (hw : xW (.classLink M.1.cls idx nm) ∧ xW (.castable q.1 nm)) (k : xV D N0 M d nx lv (.ref a :: r) h Q) : xV D N0 M d pc lv (.ref a :: r) h Q := by
  intro p l e R s m args below meth c H locs cells slots ls C hH hR hL
  obtain ⟨len, tg, cv, wi, hk⟩ := xon_spec C.2.2.2.2.2.2.2.2.2.2.2.2.1 hq
  obtain ⟨hd, rfl, hi⟩ := xchk_dec hk
  obtain rfl := Nat.eq_of_beq_eq_true hi
  have hWS := C.2.2.2.2.2.2.2.2.1
  obtain ⟨r1, g1, cell, g2, g3, g4, -⟩ := (hH.2.1 a _ ha).1
  exact va_castY C.1 C.2.1 C.2.2.2.2.2.2.2.1 (hWS _ hw.1 args) (hWS _ hw.2 #[]) ⟨cell, g2, by rw [g4]; rfl, by rw [g3]; exact (C.2.2.2.2.2.2.2.2.2.1.1 ci q hc).2.1⟩ hd (k p l e R s m args below meth c H locs cells slots ls C hH hR hL)
theorem xV.aast {a n nx v ci : Nat} {E : String} {q : vw_C} {vs : List Value} {f : Nat → Option Nat} {i : Int32} {r : List Value} (hq : xon M pc = some (.aastore, nx)) (ha : xget h a = some (.inl (false, .object E, n, .inr (.inr (.inr (.inr f)))))) (hv : xget h v = some (.inr (ci, vs))) (hc : xcl[ci]? = some q) (hw : xW (.castable q.1 E)) (hin : vp_in i n)
    (k : xV D N0 M d nx lv r (xput h a (.inl (false, .object E, n, .inr (.inr (.inr (.inr (va_up f i.toNatClampNeg (some v)))))))) Q) : xV D N0 M d pc lv (.ref v :: .int i :: .ref a :: r) h Q := by
  intro p l e R s m args below meth c H locs cells slots ls C hH hR hL
  obtain ⟨len, tg, cv, wi, hk⟩ := xon_spec C.2.2.2.2.2.2.2.2.2.2.2.2.1 hq
  obtain ⟨hd, rfl, hi⟩ := xchk_dec hk
  obtain rfl := Nat.eq_of_beq_eq_true hi
  have hWS := C.2.2.2.2.2.2.2.2.1
  obtain ⟨⟨cA, h1, h2, h3⟩, hN⟩ := hH.2.1 a _ ha
  have hN : N0 ≤ a := hN rfl
  obtain ⟨r1, g0, cell, g1, g2, g3, -⟩ := (hH.2.1 v _ hv).1
  have hcls := (C.2.2.2.2.2.2.2.2.2.1.1 ci q hc).2
  obtain ⟨kA, comp, k1, k2, k3, k4⟩ := id h3
  obtain ⟨kE, hkE, -⟩ := Vm.findClass_spec k3
  obtain ⟨c0, t1, f1, f2, f3⟩ := Cond.castable_spec (hWS _ hw args)
  cases hcls.1.symm.trans f1
  cases k3.symm.trans f2
  obtain ⟨kC, hkC, -⟩ := hcls.2
  refine W.aast C.1 C.2.1 h1 (fun q h => by cases h) (fun h => by cases h) k1 k2 rfl hkE ⟨fun z => hin (Or.inl z), by show _ < (arrV _ _ _).slots.size; rw [arrV_size]; exact xin_lt hin⟩ g1 (fun q h => by rw [g3] at h; cases h) (by rw [g2]; exact hkC) (by rw [g2]; exact f3) rfl rfl hd fun H1 e1 z oq => ?_
  refine k p l e R s m args below meth c H1 _ cells slots ls C (hH.put z oq ⟨cA, ?_, h2, h3⟩ hN) (hR.put rfl rfl hN) hL
  rw [e1]
  simp only [vp_cell_q, arrV_store]
  rw [show Value.ref v = va_rf (some v) from rfl, xupd_ref]
theorem xV.anew {idx nx N : Nat} {E : String} {n : Int32} {r : List Value} (hq : xon M pc = some (.anewarray idx, nx)) (hw : xW (.classLink M.1.cls idx E) ∧ xW (.arrayOver (.object E))) (hn : ¬ n < 0) (hN : n.toNatClampNeg = N) (hb : N * 4 ≤ 536870912) (hc1 : h.2.1 + 1 ≤ xCmax) (hc2 : h.2.2.1 + N ≤ xSmax)
    (k : xV D N0 M d nx lv (.ref h.1 :: r) (xnew h (.inl (false, .object E, N, .inr (.inr (.inr (.inr (fun _ => none)))))) N) Q) : xV D N0 M d pc lv (.int n :: r) h Q := by
  intro p l e R s m args below meth c H locs cells slots ls C hH hR hL
  obtain ⟨len, tg, cv, wi, hk⟩ := xon_spec C.2.2.2.2.2.2.2.2.2.2.2.2.1 hq
  obtain ⟨hd, rfl, hi⟩ := xchk_dec hk
  obtain rfl := Nat.eq_of_beq_eq_true hi
  have hWS := C.2.2.2.2.2.2.2.2.1
  subst hN
  obtain ⟨r1, r2, r3⟩ := hR.new (c := .inl (false, .object E, n.toNatClampNeg, .inr (.inr (.inr (.inr (fun _ => none)))))) hc1 hc2
  refine W.anew C.1 C.2.1 C.2.2.2.2.2.2.2.1 (hWS _ hw.1 args) (hWS _ hw.2 args) rfl hd rfl hn hb r1 r2 fun cA kA comp f1 f2 f3 f4 => ?_
  generalize hH1 : H.push ({ cls := cA, slots := Array.replicate n.toNatClampNeg .null, vm := .none } : Cell) = H1
  have z1 : H1.size = H.size + 1 := by rw [← hH1, Array.size_push]
  have e1 : H1[H.size]? = some (arrV cA n.toNatClampNeg (fun _ => .null)) := by rw [← hH1, Array.getElem?_push_size, ← arrV_new]
  have o1 : ∀ q : Nat, q < H.size → H1[q]? = H[q]? := fun q hq => by rw [← hH1, Array.getElem?_push, if_neg (Nat.ne_of_lt hq)]
  have kk := k p l e R s m args below meth c H1 locs _ _ ls C (hH.push z1 o1 ⟨cA, (by rw [← hH.1]; exact e1), fun N z => ⟨(fun k h => by cases h), kA, f2, comp, f3⟩, kA, comp, f2, f3, f4, f1⟩) r3 hL
  rw [hH.1]
  exact kk
theorem xV.callN {M2 : XM} {idx nx n b : Nat} {host : String} {as rest : List Value} {Q2 : Outcome → XH → Prop} (hq : xon M pc = some (.invokespecial idx, nx)) (hst : xsp (n + 1) st [] = some (.ref b :: as, rest)) (hw : xW (.methodLinkNest M.1.cls idx M2.1 host) ∧ xW (.instanceMethod M2.1) ∧ xW (.code M2.1 M2.2.1 M2.2.2.1 none) ∧ (M2.2.2.2.1 = none ∧ M2.2.2.2.2.1 = [] ∧ M2.1.name = "<init>") ∧ xnp M2.1 n = true) (hok2 : xOK M2 = true) (hsz : (lg_sl (.ref b :: as)).length ≤ M2.2.2.1) (hcat : (rest.map fun v => v.category).sum + (M2.2.2.1 + 11) ≤ 64)
    (hcon : xV D N0 M2 d 0 (xargs M2.2.2.1 (.ref b :: as)) [] h Q2) (kr : ∀ v u, Q2 (.returned v) u → xV D N0 M (d + 1) nx lv (v.toList ++ rest) u Q) (kt : ∀ a u, Q2 (.threw a) u → xT D N0 M (d + 1) pc lv a u Q) : xV D N0 M (d + 1) pc lv st h Q := by
  intro p l e R s m args below meth c H locs cells slots ls C hH hR hL T hT X
  obtain ⟨len, tg, cv, wi, hk⟩ := xon_spec C.2.2.2.2.2.2.2.2.2.2.2.2.1 hq
  obtain ⟨hd, hnx, hi⟩ := xchk_dec hk
  obtain rfl := Nat.eq_of_beq_eq_true hi
  obtain ⟨rfl, hlen⟩ := xsp_spec hst
  subst hT
  obtain ⟨w1, w2, w4, ⟨v1, v2, v3⟩, w6⟩ := hw
  have hWS := C.2.2.2.2.2.2.2.2.1
  have hcw : xcw M2 = .code M2.1 M2.2.1 M2.2.2.1 none := by unfold xcw; rw [v2, v1]
  obtain ⟨mk, methk, ck, hI⟩ := xIs_of (M := M2) (by rw [hcw]; exact hWS _ w4 args)
  obtain ⟨p1, p2⟩ := xnp_spec w6
  have hpl : e.platform.magicAccessors = ({} : Platform).magicAccessors := by rw [X.admits.platform]
  have hd' : decode c.code pc = .ok (.invokespecial idx, 3) := by rw [C.2.1]; exact hd
  obtain ⟨mk', methM, cM, kP, vm₁, hnamed, hmethM, hcodeM, -, hlocalsM, -, hkP, -, hW₁, hstep⟩ := Steps.initColdArgsNest (e := e) X.here C.1 X.warmed hpl C.2.2.2.2.2.2.2.1 v3 p2 (hWS _ w1 args) (hWS _ w2 args) (hWS _ w4 args) (f := F0 m pc ls ((Value.ref b :: as).reverse ++ rest)) rfl (a := b) (argsL := as) (rest := rest) (fun sig hs => (Nat.succ.inj (by simpa using hlen)).trans (p1 sig hs)) (by simp) hd'
  cases hI.1.symm.trans hnamed
  have X₁ := X.noted hW₁
  obtain ⟨t, h1, h2⟩ := xcallW (T := T.setVm vm₁) hcon kr kt hok2 hsz hcat C hH hR hL X₁ hd' hnx hI
  exact ⟨t, hstep t (fun acts => by rw [doInvoke_state]; exact h1), h2⟩
end X11
