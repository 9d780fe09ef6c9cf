/- Part 47: copying a stretch of an array of ints; Route.copy. -/
set_option maxRecDepth 100000 in
theorem w_cpR : xW (.methodLink mR_copy.1.cls 29 arraycopyName) ∧ xW (.native arraycopyName) ∧ xW (.static arraycopyName) ∧ xW (.initialized "java/lang/System") := ⟨xW_tab (i := 617) rfl rfl, xW_tab (i := 391) rfl rfl, xW_tab (i := 390) rfl rfl, xW_tab (i := 18) rfl rfl⟩
section X47
variable {D : va_G} {N0 : Nat} {M : XM} {d pc : Nat} {lv : XL} {h : XH} {Q : Outcome → XH → Prop}
theorem xV.cpI {idx nx a b n0 n1 sp dp n : Nat} {f g : Nat → Int32} {rest : List Value} (hq : xon M pc = some (.invokestatic idx, nx)) (hw : xW (.methodLink M.1.cls idx arraycopyName) ∧ xW (.native arraycopyName) ∧ xW (.static arraycopyName) ∧ xW (.initialized "java/lang/System")) (ha : xget h a = some (.inl (false, .int, n0, .inl f))) (hb : xget h b = some (.inl (false, .int, n1, .inl g)))
    (h4 : sp + n ≤ n0) (h5 : dp + n ≤ n1) (h6 : n0 ≤ 1024) (h7 : n1 ≤ 1024) (hcat : (rest.map fun v => v.category).sum + (nativeFrameWords "java/lang/System" "arraycopy" 5 + 11) ≤ 64)
    (k : xV D N0 M (d + 1) nx lv rest (xput h b (.inl (false, .int, n1, .inl (va_cpy f g sp dp n)))) Q) : xV D N0 M (d + 1) pc lv (.int (nI n) :: .int (nI dp) :: .ref b :: .int (nI sp) :: .ref a :: rest) h Q := by
  intro p l e R s m args below meth c H locs cells slots ls C hH hR hL T hT X
  obtain ⟨len, tg, cv, wi, hk⟩ := xon_spec C.2.2.2.2.2.2.2.2.2.2.2.2.1 hq
  obtain ⟨hd, hnx, hi⟩ := xchk_dec hk
  obtain rfl := Nat.eq_of_beq_eq_true hi
  obtain ⟨w1, w2, w3, w4⟩ := hw
  have hWS := C.2.2.2.2.2.2.2.2.1
  have hfr := C.2.2.2.2.2.2.2.2.2.2.1
  have hlo := C.2.2.2.2.2.2.2.2.2.2.2.1
  obtain ⟨⟨c0, a1, a2, a3⟩, -⟩ := hH.2.1 a _ ha
  obtain ⟨⟨c1, b1, b2, b3⟩, hN⟩ := hH.2.1 b _ hb
  have hN : N0 ≤ b := hN rfl
  obtain ⟨-, k0, hk0, cm0, hkk0⟩ := a2 n0 (fun j => .int (f j))
  obtain ⟨-, k1, hk1, cm1, hkk1⟩ := b2 n1 (fun j => .int (g j))
  have en : (nI n).toNatClampNeg = n := xn_clamp (by omega)
  have es : (nI sp).toNatClampNeg = sp := xn_clamp (by omega)
  have ed : (nI dp).toNatClampNeg = dp := xn_clamp (by omega)
  obtain ⟨vm', X', step⟩ := X.arraycopy C.1 C.2.2.2.2.2.2.2.1 (hWS _ w1 args) (hWS _ w2 args) (hWS _ w3 args) (hWS _ w4 args) (src := a) (dst := b) (cs := vp_cell c0 (n0, .inl f)) (cd := vp_cell c1 (n1, .inl g)) (srcPos := nI sp) (destPos := nI dp) (n := nI n) (by rw [hT]; exact a1) (by rw [hT]; exact b1)
    (fun _ z => by cases z) (fun _ z => by cases z) (fun z => by cases z) (fun z => by cases z) hk0 hk1 hkk0 hkk1 (by simp) (xn_nonneg (by omega)) (xn_nonneg (by omega)) (xn_nonneg (by omega))
    (by rw [xn_toInt (by omega), xn_toInt (by omega)]; show ¬ _ > ((arrV c0 n0 (fun j => .int (f j))).slots.size : Int); rw [arrV_size]; omega)
    (by rw [xn_toInt (by omega), xn_toInt (by omega)]; show ¬ _ > ((arrV c1 n1 (fun j => .int (g j))).slots.size : Int); rw [arrV_size]; omega)
    (fun vm₁ _ i hi => by
      have e1 : (vp_cell c0 (n0, .inl f)).slots.getD ((nI sp).toNatClampNeg + i) .null = .int (f (sp + i)) := by
        show (arrV c0 n0 (fun j => .int (f j))).slots.getD _ _ = _
        rw [Array.getD_eq_getD_getElem?, es, arrV_read _ _ (by omega)]
        rfl
      rw [e1]
      exact ⟨rfl, trivial⟩)
    (g := F0 m pc ls (.int (nI n) :: .int (nI dp) :: .ref b :: .int (nI sp) :: .ref a :: rest)) rfl (by rw [C.2.2.1]; exact hL.2.1) (rest := rest) rfl (by rw [C.2.1]; exact hd) (by omega) (by show 2 * 0 + _ + _ ≤ _; omega)
  have e1 : copied (vp_cell c0 (n0, .inl f)) (vp_cell c1 (n1, .inl g)) (nI sp) (nI dp) (nI n) = vp_cell c1 (n1, .inl (va_cpy f g sp dp n)) := by
    have := va_copied (fun z => Value.int z) c0 c1 (n1 := n1) (dp := dp) f g h4
    unfold copied
    rw [en, es, ed]
    exact this
  rw [e1] at X' step
  have hl : b < H.size := (Array.getElem?_eq_some_iff.mp b1).1
  have hheap : ((T.setVm vm').setCell b (vp_cell c1 (n1, .inl (va_cpy f g sp dp n)))).heap = H.setIfInBounds b (vp_cell c1 (n1, .inl (va_cpy f g sp dp n))) := by rw [← hT]; rfl
  have oq : ∀ q : Nat, q ≠ b → (H.setIfInBounds b (vp_cell c1 (n1, .inl (va_cpy f g sp dp n))))[q]? = H[q]? := fun q hq => by simp [Array.getElem?_setIfInBounds, Ne.symm hq]
  subst hnx
  obtain ⟨t, t1, t2⟩ := k p l e R s m args below meth c _ _ cells slots ls C
    (hH.put (a := b) (c := .inl (false, .int, n1, .inl (va_cpy f g sp dp n))) (by simp) oq ⟨c1, by simp [Array.getElem?_setIfInBounds, hl], b2, b3⟩ hN)
    ⟨fun q hq => by
      rcases List.mem_append.mp hq with z | z
      · exact hR.1 q z
      · obtain ⟨y, -, hy⟩ := List.mem_map.mp z
        rw [← hy]
        exact hN, hR.2⟩ hL _ hheap X'
  exact ⟨t, step t t1, t2⟩
end X47
section Y47
variable {D : va_G} {N0 : Nat} {d a b : Nat} {h : XH} {ln ln' : Int32} {ch py am ch' py' am' : Nat} {c p m c' p' m' : Nat → Int32}
theorem c_R_copy (ha : xget h a = some (.inr (3, roF ch py am ln))) (hb : xget h b = some (.inr (3, roF ch' py' am' ln'))) (hc : xget h ch = some (.inl (false, .int, 5, .inl c))) (hp : xget h py = some (.inl (false, .int, 5, .inl p))) (hm : xget h am = some (.inl (false, .int, 5, .inl m))) (hc' : xget h ch' = some (.inl (false, .int, 5, .inl c'))) (hp' : xget h py' = some (.inl (false, .int, 5, .inl p'))) (hm' : xget h am' = some (.inl (false, .int, 5, .inl m')))
    (n1 : a ≠ ch) (n2 : a ≠ py) (n3 : a ≠ am) (n4 : b ≠ ch) (n5 : b ≠ py) (n6 : b ≠ am) (n7 : py ≠ ch) (n8 : am ≠ ch) (n9 : am ≠ py) (m1 : py' ≠ ch) (m2 : am' ≠ ch) (m3 : am' ≠ py) :
    xV D N0 mR_copy (d + 1) 0 (xargs 2 [.ref a, .ref b]) [] h (xEq (.returned none) (xput (xput (xput (xput h ch (.inl (false, .int, 5, .inl (va_cpy c' c 0 0 5)))) py (.inl (false, .int, 5, .inl (va_cpy p' p 0 0 5)))) am (.inl (false, .int, 5, .inl (va_cpy m' m 0 0 5)))) a (.inr (3, roF ch py am ln')))) := by
  refine xV.step rfl ?_
  refine xV.get xcl_ok rfl hb rfl ?_
  refine xV.step rfl ?_
  refine xV.step rfl ?_
  refine xV.get xcl_ok rfl ha rfl ?_
  refine xV.step rfl ?_
  refine xV.step rfl ?_
  refine xV.cpI (sp := 0) (dp := 0) (n := 5) rfl w_cpR hc' hc (by omega) (by omega) (by omega) (by omega) (by decide +kernel) ?_
  have ha1 : xget (xput h ch (.inl (false, .int, 5, .inl (va_cpy c' c 0 0 5)))) a = some (.inr (3, roF ch py am ln)) := by rw [xput_ne n1]; exact ha
  have hb1 : xget (xput h ch (.inl (false, .int, 5, .inl (va_cpy c' c 0 0 5)))) b = some (.inr (3, roF ch' py' am' ln')) := by rw [xput_ne n4]; exact hb
  refine xV.step rfl ?_
  refine xV.get xcl_ok rfl hb1 rfl ?_
  refine xV.step rfl ?_
  refine xV.step rfl ?_
  refine xV.get xcl_ok rfl ha1 rfl ?_
  refine xV.step rfl ?_
  refine xV.step rfl ?_
  refine xV.cpI (sp := 0) (dp := 0) (n := 5) (f := p') (g := p) (n0 := 5) (n1 := 5) rfl w_cpR (by rw [xput_ne m1]; exact hp') (by rw [xput_ne n7]; exact hp) (by omega) (by omega) (by omega) (by omega) (by decide +kernel) ?_
  have ha2 : xget (xput (xput h ch (.inl (false, .int, 5, .inl (va_cpy c' c 0 0 5)))) py (.inl (false, .int, 5, .inl (va_cpy p' p 0 0 5)))) a = some (.inr (3, roF ch py am ln)) := by rw [xput_ne n2]; exact ha1
  have hb2 : xget (xput (xput h ch (.inl (false, .int, 5, .inl (va_cpy c' c 0 0 5)))) py (.inl (false, .int, 5, .inl (va_cpy p' p 0 0 5)))) b = some (.inr (3, roF ch' py' am' ln')) := by rw [xput_ne n5]; exact hb1
  refine xV.step rfl ?_
  refine xV.get xcl_ok rfl hb2 rfl ?_
  refine xV.step rfl ?_
  refine xV.step rfl ?_
  refine xV.get xcl_ok rfl ha2 rfl ?_
  refine xV.step rfl ?_
  refine xV.step rfl ?_
  refine xV.cpI (sp := 0) (dp := 0) (n := 5) (f := m') (g := m) (n0 := 5) (n1 := 5) rfl w_cpR (by rw [xput_ne m3, xput_ne m2]; exact hm') (by rw [xput_ne n9, xput_ne n8]; exact hm) (by omega) (by omega) (by omega) (by omega) (by decide +kernel) ?_
  have ha3 : xget (xput (xput (xput h ch (.inl (false, .int, 5, .inl (va_cpy c' c 0 0 5)))) py (.inl (false, .int, 5, .inl (va_cpy p' p 0 0 5)))) am (.inl (false, .int, 5, .inl (va_cpy m' m 0 0 5)))) a = some (.inr (3, roF ch py am ln)) := by rw [xput_ne n3]; exact ha2
  have hb3 : xget (xput (xput (xput h ch (.inl (false, .int, 5, .inl (va_cpy c' c 0 0 5)))) py (.inl (false, .int, 5, .inl (va_cpy p' p 0 0 5)))) am (.inl (false, .int, 5, .inl (va_cpy m' m 0 0 5)))) b = some (.inr (3, roF ch' py' am' ln')) := by rw [xput_ne n6]; exact hb2
  refine xV.step rfl ?_
  refine xV.step rfl ?_
  refine xV.get xcl_ok rfl hb3 rfl ?_
  refine xV.put xcl_ok rfl ha3 rfl rfl rfl (Nat.le_of_ble_eq_true rfl) ?_
  exact xV.vret rfl rfl ⟨rfl, rfl⟩
end Y47
