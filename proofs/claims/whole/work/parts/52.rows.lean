/- Part 52: the JDK's rows that lists need: getClass, a class constant, copies of references, Math.max and Math.min. -/
section X52
variable {D : va_G} {N0 : Nat} {M : XM} {d pc : Nat} {lv : XL} {st : List Value} {h : XH} {Q : Outcome → XH → Prop}
def gcN : MethodName := ⟨"java/lang/Object", "getClass", "()Ljava/lang/Class;"⟩
theorem xMir.ev {s : State} (hm : xMir D s) (args : Array Value) : (Term.mirror "[Ljava/lang/Object;").eval args s none [] s = some (.ref (D.1 1001)) := by
  obtain ⟨c, k, h1, h2, h3⟩ := hm
  simp [Term.eval, h1, h2, h3]
theorem xV.gcl {idx nx a n : Nat} {f : Nat → Option Nat} {rest : List Value} (hq : xon M pc = some (.invokevirtual idx, nx)) (hw : xW (.methodLink M.1.cls idx gcN) ∧ xW (.sameMethod "java/lang/Object" "java/lang/Object" "getClass" "()Ljava/lang/Class;") ∧ xW (.native gcN) ∧ xW (.instanceMethod gcN) ∧ xW (.selects "[Ljava/lang/Object;" gcN gcN)) (ha : xget h a = some (.inl (false, .object "java/lang/Object", n, .inr (.inr (.inr (.inr f)))))) (hcat : (rest.map fun v => v.category).sum + 14 ≤ 64)
    (k : xV D N0 M (d + 1) nx lv (.ref (D.1 1001) :: rest) h Q) : xV D N0 M (d + 1) pc lv (.ref a :: rest) h Q := by
  intro p l e R s m args below meth c H locs cells slots ls C hH hR hL T hT X
  obtain ⟨len, tg, cv, wi, hk⟩ := xon_spec C.2.2.2.2.2.2.2.2.2.2.2.2.1 hq
  obtain ⟨hd, hnx, hi⟩ := xchk_dec hk
  obtain rfl := Nat.eq_of_beq_eq_true hi
  obtain ⟨w1, w2, w3, w4, w5⟩ := hw
  have hWS := C.2.2.2.2.2.2.2.2.1
  have hfr := C.2.2.2.2.2.2.2.2.2.2.1
  have hlo := C.2.2.2.2.2.2.2.2.2.2.2.1
  have hmi := C.2.2.2.2.2.2.2.2.2.2.2.2.2.2.2.2
  obtain ⟨⟨c0, a1, a2, a3⟩, -⟩ := hH.2.1 a _ ha
  obtain ⟨kA, comp, k1, k2, k3, k4⟩ := id a3
  rw [show "[" ++ (FieldType.object "java/lang/Object").toString = "[Ljava/lang/Object;" from by decide +kernel] at k4
  obtain ⟨vm', X', step⟩ := X.getClass C.1 (ad := "java/lang/Object") (C := "[Ljava/lang/Object;") C.2.2.2.2.2.2.2.1 (hWS _ w1 args) (hWS _ w2 args) (hWS _ w3 args) (hWS _ w4 args) (hWS _ w5 args) (a := a) (mir := D.1 1001) (by rw [hT]; exact a1) (fun _ z => by cases z) k4 (hmi.ev args)
    (g := F0 m pc ls (.ref a :: rest)) rfl (by rw [C.2.2.1]; exact hL.2.1) (rest := rest) rfl (by rw [C.2.1]; exact hd) (by omega) (by show 2 * 0 + _ + _ ≤ _; omega)
  subst hnx
  obtain ⟨t, t1, t2⟩ := k p l e R s m args below meth c H locs cells slots ls C hH hR hL (T.setVm vm') hT X'
  exact ⟨t, step t t1, t2⟩
theorem xV.ldC {idx nx : Nat} (hq : xon M pc = some (.ldc idx, nx)) (hw : xW (.classLink M.1.cls idx "[Ljava/lang/Object;")) (k : xV D N0 M d nx lv (.ref (D.1 1001) :: st) h Q) : xV D N0 M d pc lv st h Q := by
  intro p l e R s m args below meth c H locs cells slots ls C hH hR hL T hT X
  obtain ⟨len, tg, cv, wi, hk⟩ := xon_spec C.2.2.2.2.2.2.2.2.2.2.2.2.1 hq
  obtain ⟨hd, hnx, hi⟩ := xchk_dec hk
  have hi2 : (Nat.beq len 2 && _) = true := hi
  rw [Bool.and_eq_true] at hi2
  obtain rfl := Nat.eq_of_beq_eq_true hi2.1
  have hWS := C.2.2.2.2.2.2.2.2.1
  have hmi := C.2.2.2.2.2.2.2.2.2.2.2.2.2.2.2.2
  obtain ⟨vm', X', step⟩ := X.ldcMirror C.1 C.2.2.2.2.2.2.2.1 (hWS _ hw args) (hmi.ev args) (g := F0 m pc ls st) rfl (by rw [C.2.1]; exact hd)
  subst hnx
  obtain ⟨t, t1, t2⟩ := k p l e R s m args below meth c H locs cells slots ls C hH hR hL (T.setVm vm') hT X'
  exact ⟨t, step t t1, t2⟩
theorem xV.cpQ {idx nx a b n0 n1 n : Nat} {f g : Nat → Option Nat} {rest : List Value} (hq : xon M pc = some (.invokestatic idx, nx)) (hw : xW (.methodLink M.1.cls idx arraycopyName) ∧ xW (.native arraycopyName) ∧ xW (.static arraycopyName) ∧ xW (.initialized "java/lang/System")) (ha : xget h a = some (.inl (false, .object "java/lang/Object", n0, .inr (.inr (.inr (.inr f)))))) (hb : xget h b = some (.inl (false, .object "java/lang/Object", n1, .inr (.inr (.inr (.inr g))))))
    (hel : ∀ i y, i < n → f i = some y → ∃ (ci : Nat) (fs : List Value) (q : vw_C), xget h y = some (.inr (ci, fs)) ∧ xcl[ci]? = some q ∧ xW (.castable q.1 "java/lang/Object"))
    (h4 : n ≤ n0) (h5 : n ≤ n1) (h6 : n0 ≤ 1024) (h7 : n1 ≤ 1024) (hcat : (rest.map fun v => v.category).sum + (nativeFrameWords "java/lang/System" "arraycopy" 5 + 11) ≤ 64)
    (k : xV D N0 M (d + 1) nx lv rest (xput h b (.inl (false, .object "java/lang/Object", n1, .inr (.inr (.inr (.inr (va_cpy f g 0 0 n))))))) Q) : xV D N0 M (d + 1) pc lv (.int (nI n) :: .int 0 :: .ref b :: .int 0 :: .ref a :: rest) h Q := by
  intro p l e R s m args below meth c H locs cells slots ls C hH hR hL T hT X
  obtain ⟨len, tg, cv, wi, hk⟩ := xon_spec C.2.2.2.2.2.2.2.2.2.2.2.2.1 hq
  obtain ⟨hd, hnx, hi⟩ := xchk_dec hk
  obtain rfl := Nat.eq_of_beq_eq_true hi
  obtain ⟨w1, w2, w3, w4⟩ := hw
  have hWS := C.2.2.2.2.2.2.2.2.1
  have hKn := C.2.2.2.2.2.2.2.2.2.1
  have hfr := C.2.2.2.2.2.2.2.2.2.2.1
  have hlo := C.2.2.2.2.2.2.2.2.2.2.2.1
  obtain ⟨⟨c0, a1, a2, a3⟩, -⟩ := hH.2.1 a _ ha
  obtain ⟨⟨c1, b1, b2, b3⟩, hN⟩ := hH.2.1 b _ hb
  have hN : N0 ≤ b := hN rfl
  obtain ⟨k0, p0, hk0, hkk0, -, -⟩ := id a3
  obtain ⟨k1, p1, hk1, hkk1, hkp1, -⟩ := id b3
  have en : (nI n).toNatClampNeg = n := xn_clamp (by omega)
  obtain ⟨vm', X', step⟩ := X.arraycopy C.1 C.2.2.2.2.2.2.2.1 (hWS _ w1 args) (hWS _ w2 args) (hWS _ w3 args) (hWS _ w4 args) (src := a) (dst := b) (cs := vp_cell c0 (n0, .inr (.inr (.inr (.inr f))))) (cd := vp_cell c1 (n1, .inr (.inr (.inr (.inr g))))) (srcPos := 0) (destPos := 0) (n := nI n) (by rw [hT]; exact a1) (by rw [hT]; exact b1)
    (fun _ z => by cases z) (fun _ z => by cases z) (fun z => by cases z) (fun z => by cases z) hk0 hk1 hkk0 hkk1 (by simp [refKind]) (by decide) (by decide) (xn_nonneg (by omega))
    (by rw [xn_toInt (by omega), show (0 : Int32).toInt = 0 from rfl]; show ¬ _ > ((arrV c0 n0 (fun j => va_rf (f j))).slots.size : Int); rw [arrV_size]; omega)
    (by rw [xn_toInt (by omega), show (0 : Int32).toInt = 0 from rfl]; show ¬ _ > ((arrV c1 n1 (fun j => va_rf (g j))).slots.size : Int); rw [arrV_size]; omega)
    (fun vm₁ hW₁ i hi => by
      rw [en] at hi
      have e1 : (vp_cell c0 (n0, .inr (.inr (.inr (.inr f))))).slots.getD ((0 : Int32).toNatClampNeg + i) .null = va_rf (f i) := by
        show (arrV c0 n0 (fun j => va_rf (f j))).slots.getD _ _ = _
        rw [show (0 : Int32).toNatClampNeg = 0 from rfl, Nat.zero_add, Array.getD_eq_getD_getElem?, arrV_read _ _ (by omega)]
        rfl
      rw [e1]
      cases hf : f i with
      | none => exact ⟨rfl, trivial⟩
      | some y =>
        refine ⟨rfl, ?_⟩
        obtain ⟨ci, fs, q, hy, hci, hcast⟩ := hel i y hi hf
        obtain ⟨r1, g0, cell, g1, g2, g3, -⟩ := (hH.2.1 y _ hy).1
        have hcls := (hKn.1 ci q hci).2
        obtain ⟨cc, tt, f1, f2, f3⟩ := Cond.castable_spec (hWS _ hcast args)
        cases hcls.1.symm.trans f1
        cases hkp1.symm.trans f2
        obtain ⟨kC, hkC, -⟩ := Vm.findClass_spec f1
        obtain ⟨kE, hkE, -⟩ := Vm.findClass_spec f2
        obtain ⟨kC2, e1, -⟩ := hW₁.2.2 _ _ hkC
        obtain ⟨kE2, e2, -⟩ := hW₁.2.2 _ _ hkE
        refine ⟨cell, ?_, ?_, ⟨kC2, ?_⟩, ⟨kE2, e2⟩, ?_⟩
        · show T.heap[y]? = _
          rw [hT]; exact g1
        · intro z hz
          rw [g3] at hz; cases hz
        · rw [g2]; exact e1
        · rw [g2]
          exact (hW₁.assignable _ _).trans f3)
    (g := F0 m pc ls (.int (nI n) :: .int 0 :: .ref b :: .int 0 :: .ref a :: rest)) rfl (by rw [C.2.2.1]; exact hL.2.1) (rest := rest) rfl (by rw [C.2.1]; exact hd) (by omega) (by show 2 * 0 + _ + _ ≤ _; omega)
  have e1 : copied (vp_cell c0 (n0, .inr (.inr (.inr (.inr f))))) (vp_cell c1 (n1, .inr (.inr (.inr (.inr g))))) 0 0 (nI n) = vp_cell c1 (n1, .inr (.inr (.inr (.inr (va_cpy f g 0 0 n))))) := by
    have := va_copied va_rf c0 c1 (n1 := n1) (dp := 0) (sp := 0) (n0 := n0) (n := n) f g (by omega)
    unfold copied
    rw [en, show (0 : Int32).toNatClampNeg = 0 from rfl]
    exact this
  rw [e1] at X' step
  have hl : b < H.size := (Array.getElem?_eq_some_iff.mp b1).1
  have hheap : ((T.setVm vm').setCell b (vp_cell c1 (n1, .inr (.inr (.inr (.inr (va_cpy f g 0 0 n))))))).heap = H.setIfInBounds b (vp_cell c1 (n1, .inr (.inr (.inr (.inr (va_cpy f g 0 0 n)))))) := by rw [← hT]; rfl
  have oq : ∀ q : Nat, q ≠ b → (H.setIfInBounds b (vp_cell c1 (n1, .inr (.inr (.inr (.inr (va_cpy f g 0 0 n)))))))[q]? = H[q]? := fun q hq => by simp [Array.getElem?_setIfInBounds, Ne.symm hq]
  subst hnx
  obtain ⟨t, t1, t2⟩ := k p l e R s m args below meth c _ _ cells slots ls C
    (hH.put (a := b) (c := .inl (false, .object "java/lang/Object", n1, .inr (.inr (.inr (.inr (va_cpy f g 0 0 n)))))) (by simp) oq ⟨c1, by simp [Array.getElem?_setIfInBounds, hl], b2, b3⟩ hN)
    ⟨fun q hq => by
      rcases List.mem_append.mp hq with z | z
      · exact hR.1 q z
      · obtain ⟨y, -, hy⟩ := List.mem_map.mp z
        rw [← hy]
        exact hN, hR.2⟩ hL _ hheap X'
  exact ⟨t, step t t1, t2⟩
/-- a call of Math.max -/
theorem xV.max {idx nx : Nat} {x y : Int32} {rest : List Value} (hq : xon M pc = some (.invokestatic idx, nx)) (hw : xW (.methodLink M.1.cls idx Lib.Math.max.name) ∧ xW (.static Lib.Math.max.name) ∧ xW (.initialized "java/lang/Math") ∧ xW (.code Lib.Math.max.name Lib.Math.max.code 2 (some .int))) (hcat : (rest.map fun v => v.category).sum + 13 ≤ 64) (k : xV D N0 M (d + 1) nx lv (.int (if x < y then y else x) :: rest) h Q) : xV D N0 M (d + 1) pc lv (.int y :: .int x :: rest) h Q := by
  intro p l e R s m args below meth c H locs cells slots ls C hH hR hL T hT X
  obtain ⟨len, tg, cv, wi, hk⟩ := xon_spec C.2.2.2.2.2.2.2.2.2.2.2.2.1 hq
  obtain ⟨hd, hnx, hi⟩ := xchk_dec hk
  obtain rfl := Nat.eq_of_beq_eq_true hi
  obtain ⟨w1, w2, w3, w4⟩ := hw
  have hWS := C.2.2.2.2.2.2.2.2.1
  have hfr := C.2.2.2.2.2.2.2.2.2.2.1
  have hlo := C.2.2.2.2.2.2.2.2.2.2.2.1
  have hcode := hWS _ w4 args
  have hdsc : parseMethodDescriptor Lib.Math.max.name.desc = some { parameters := [.int, .int], returnType := some .int } := by decide +kernel
  obtain ⟨v, vm', X', ⟨first, t, hpost⟩, step⟩ := X.staticByContractV C.1 C.2.2.2.2.2.2.2.1 (hWS _ w1 args) (hWS _ w2 args) (hWS _ w3 args) hcode (by decide)
    (Meets.loose_of_no_refs (Lib.Math.max.meets l) (fun args' s' h => by
      simp only [Lib.Math.max.spec, Cond.before_and, Bool.and_eq_true] at h
      obtain ⟨x, y, rfl⟩ := Cond.two_ints h.2.1 h.2.2.1 h.2.2.2
      intro r hr
      simp at hr)) rfl rfl rfl rfl
    (fun args' first o s₂ h => by
      simp only [Lib.Math.max.spec, Cond.after_and, Bool.and_eq_true] at h
      cases o with
      | returned r => exact ⟨r, rfl⟩
      | threw y => simp [Cond.after, Cond.holds, Cond.value] at h)
    (g := F0 m pc ls (.int y :: .int x :: rest)) rfl (by rw [C.2.2.1]; exact hL.2.1) (argsL := [.int x, .int y]) (rest := rest)
    (fun sig hs => by rw [hdsc] at hs; cases hs; rfl) rfl (by rw [C.2.1]; exact hd)
    (fun vm2 hW => by
      simp only [Lib.Math.max.spec, Cond.before_and, Bool.and_eq_true]
      refine ⟨?_, rfl, rfl, rfl⟩
      have q := hcode
      rw [← Cond.code_setVm hW.alike] at q
      simp only [Cond.before, Cond.holds, Cond.value, State.methodNamed?, State.vm_setVm] at q ⊢
      exact q)
    (by show 0 + 1 ≤ R.frames; omega) (by show 2 * 0 + _ + (2 + 11) + 0 ≤ R.locals; omega) (by have := hR.2.1; show cells + 0 ≤ R.cells; omega) (by have := hR.2.2.1; show slots + 0 ≤ R.slots; omega)
  have hv : v = some (.int (if x < y then y else x)) := by
    by_cases h1 : x < y
    · rw [if_pos h1]
      rcases v with _ | w
      · simp [Lib.Math.max.spec, Cond.after, Cond.holds, Cond.value, Term.eval, h1] at hpost
      · cases w <;> simp [Lib.Math.max.spec, Cond.after, Cond.holds, Cond.value, Term.eval, h1] at hpost
        rename_i r
        by_cases hr : r = y <;> simp [hr] at hpost ⊢
    · rw [if_neg h1]
      rcases v with _ | w
      · simp [Lib.Math.max.spec, Cond.after, Cond.holds, Cond.value, Term.eval, h1] at hpost
      · cases w <;> simp [Lib.Math.max.spec, Cond.after, Cond.holds, Cond.value, Term.eval, h1] at hpost
        simp [hpost]
  subst hv
  subst hnx
  obtain ⟨t, t1, t2⟩ := k p l e R s m args below meth c H locs cells slots ls C hH hR hL (T.setVm vm') hT X'
  exact ⟨t, step t t1, t2⟩
/-- a call of Math.min -/
theorem xV.min {idx nx : Nat} {x y : Int32} {rest : List Value} (hq : xon M pc = some (.invokestatic idx, nx)) (hw : xW (.methodLink M.1.cls idx Lib.Math.min.name) ∧ xW (.static Lib.Math.min.name) ∧ xW (.initialized "java/lang/Math") ∧ xW (.code Lib.Math.min.name Lib.Math.min.code 2 (some .int))) (hcat : (rest.map fun v => v.category).sum + 13 ≤ 64) (k : xV D N0 M (d + 1) nx lv (.int (if y < x then y else x) :: rest) h Q) : xV D N0 M (d + 1) pc lv (.int y :: .int x :: rest) h Q := by
  intro p l e R s m args below meth c H locs cells slots ls C hH hR hL T hT X
  obtain ⟨len, tg, cv, wi, hk⟩ := xon_spec C.2.2.2.2.2.2.2.2.2.2.2.2.1 hq
  obtain ⟨hd, hnx, hi⟩ := xchk_dec hk
  obtain rfl := Nat.eq_of_beq_eq_true hi
  obtain ⟨w1, w2, w3, w4⟩ := hw
  have hWS := C.2.2.2.2.2.2.2.2.1
  have hfr := C.2.2.2.2.2.2.2.2.2.2.1
  have hlo := C.2.2.2.2.2.2.2.2.2.2.2.1
  obtain ⟨vm', X', step⟩ := X.mathMinV C.1 C.2.2.2.2.2.2.2.1 (hWS _ w1 args) (hWS _ w2 args) (hWS _ w3 args) (hWS _ w4 args) (g := F0 m pc ls (.int y :: .int x :: rest)) rfl (by rw [C.2.2.1]; exact hL.2.1) (a := x) (b := y) (rest := rest) rfl (by rw [C.2.1]; exact hd) (by omega) (by show 2 * 0 + _ + 13 ≤ R.locals; omega) hR.2.1 hR.2.2.1
  subst hnx
  obtain ⟨t, t1, t2⟩ := k p l e R s m args below meth c H locs cells slots ls C hH hR hL (T.setVm vm') hT X'
  exact ⟨t, step t t1, t2⟩
end X52
