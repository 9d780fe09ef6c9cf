/- Part 53: new lists; an element added. -/
set_option maxRecDepth 100000 in
theorem g_newLen_max : xW (.methodLink mArraysSupport_newLength.1.cls 194 Lib.Math.max.name) ∧ xW (.static Lib.Math.max.name) ∧ xW (.initialized "java/lang/Math") ∧ xW (.code Lib.Math.max.name Lib.Math.max.code 2 (some .int)) := ⟨xW_tab (i := 355) rfl rfl, xW_tab (i := 356) rfl rfl, xW_tab (i := 16) rfl rfl, xW_tab (i := 357) rfl rfl⟩
set_option maxRecDepth 100000 in
theorem g_grow2_max : xW (.methodLink mA_grow2.1.cls 79 Lib.Math.max.name) ∧ xW (.static Lib.Math.max.name) ∧ xW (.initialized "java/lang/Math") ∧ xW (.code Lib.Math.max.name Lib.Math.max.code 2 (some .int)) := ⟨xW_tab (i := 392) rfl rfl, xW_tab (i := 356) rfl rfl, xW_tab (i := 16) rfl rfl, xW_tab (i := 357) rfl rfl⟩
set_option maxRecDepth 100000 in
theorem g_copyOf2_min : xW (.methodLink mArrays_copyOf2.1.cls 304 Lib.Math.min.name) ∧ xW (.static Lib.Math.min.name) ∧ xW (.initialized "java/lang/Math") ∧ xW (.code Lib.Math.min.name Lib.Math.min.code 2 (some .int)) := ⟨xW_tab (i := 386) rfl rfl, xW_tab (i := 387) rfl rfl, xW_tab (i := 16) rfl rfl, xW_tab (i := 388) rfl rfl⟩
set_option maxRecDepth 100000 in
theorem w_cpA : xW (.methodLink mArrays_copyOf2.1.cls 150 arraycopyName) ∧ xW (.native arraycopyName) ∧ xW (.static arraycopyName) ∧ xW (.initialized "java/lang/System") := ⟨xW_tab (i := 389) rfl rfl, xW_tab (i := 391) rfl rfl, xW_tab (i := 390) rfl rfl, xW_tab (i := 18) rfl rfl⟩
set_option maxRecDepth 100000 in
theorem w_ldC : xW (.classLink mArrays_copyOf2.1.cls 110 "[Ljava/lang/Object;") := xW_tab (i := 383) rfl rfl
set_option maxRecDepth 100000 in
theorem w_anew2 : xW (.classLink mArrays_copyOf2.1.cls 2 "java/lang/Object") ∧ xW (.arrayOver (.object "java/lang/Object")) := ⟨xW_tab (i := 385) rfl rfl, xW_tab (i := 384) rfl rfl⟩
set_option maxRecDepth 100000 in
theorem w_anew7 : xW (.classLink mA_grow2.1.cls 7 "java/lang/Object") ∧ xW (.arrayOver (.object "java/lang/Object")) := ⟨xW_tab (i := 393) rfl rfl, xW_tab (i := 384) rfl rfl⟩
set_option maxRecDepth 100000 in
theorem w_gcl : xW (.methodLink mArrays_copyOf.1.cls 86 gcN) ∧ xW (.sameMethod "java/lang/Object" "java/lang/Object" "getClass" "()Ljava/lang/Class;") ∧ xW (.native gcN) ∧ xW (.instanceMethod gcN) ∧ xW (.selects "[Ljava/lang/Object;" gcN gcN) := ⟨xW_tab (i := 365) rfl rfl, xW_tab (i := 367) rfl rfl, xW_tab (i := 379) rfl rfl, xW_tab (i := 366) rfl rfl, xW_tab (i := 1256) rfl rfl⟩
def lF (e : Nat) (n : Nat) (mo : Int32) : XC := .inr (2, [.ref e, .int (nI n), .int mo])
def oA (n : Nat) (g : Nat → Option Nat) : XC := .inl (false, .object "java/lang/Object", n, .inr (.inr (.inr (.inr g))))
theorem new_put {h : XH} {n : Nat} {c c' : XC} : xput (xnew h c n) h.1 c' = xnew h c' n := by
  refine Prod.ext rfl (Prod.ext rfl (Prod.ext rfl ?_))
  funext x
  show (if x = h.1 then some c' else if x = h.1 then some c else h.2.2.2 x) = if x = h.1 then some c' else h.2.2.2 x
  by_cases hx : x = h.1
  · rw [if_pos hx, if_pos hx]
  · rw [if_neg hx, if_neg hx, if_neg hx]
theorem new_get {h : XH} {n : Nat} {c : XC} : xget (xnew h c n) h.1 = some c := by
  show (if h.1 = h.1 then some c else _) = _
  rw [if_pos rfl]
theorem xput_comm {h : XH} {a b : Nat} {c c' : XC} (n : a ≠ b) : xput (xput h a c) b c' = xput (xput h b c') a c := by
  refine Prod.ext rfl (Prod.ext rfl (Prod.ext rfl ?_))
  funext x
  show (if x = b then some c' else if x = a then some c else h.2.2.2 x) = if x = a then some c else if x = b then some c' else h.2.2.2 x
  by_cases h1 : x = b
  · rw [if_pos h1, if_neg (fun z => n (z.symm.trans h1)), if_pos h1]
  · rw [if_neg h1, if_neg h1]
section X53
variable {D : va_G} {N0 : Nat} {d a : Nat} {h : XH}
theorem c_A_init (ha : xget h a = some (.inr (2, xdf 2))) : xV D N0 mA_init (d + 3) 0 (xargs 1 [.ref a]) [] h (xEq (.returned none) (xput h a (lF (D.1 1000) 0 0))) := by
  have c0 : xV D N0 mAbstractCollection_init (d + 1) 0 (xargs 1 [.ref a]) [] h (xEq (.returned none) h) := by
    refine xV.step rfl ?_
    refine xV.obj rfl g_mAbstractCollection_init_1 (Nat.le_of_ble_eq_true rfl) ?_
    exact xV.vret rfl rfl ⟨rfl, rfl⟩
  have c1 : xV D N0 mAbstractList_init (d + 2) 0 (xargs 1 [.ref a]) [] h (xEq (.returned none) (xput h a (.inr (2, [.null, .int 0, .int 0])))) := by
    refine xV.step rfl ?_
    refine xV.cI rfl rfl g_mAbstractList_init_1 mAbstractCollection_init_ok (Nat.le_of_ble_eq_true rfl) (Nat.le_of_ble_eq_true rfl) c0 ?_
    refine xV.step rfl ?_
    refine xV.step rfl ?_
    refine xV.put xcl_ok rfl ha rfl rfl rfl (Nat.le_of_ble_eq_true rfl) ?_
    exact xV.vret rfl rfl ⟨rfl, rfl⟩
  refine xV.step rfl ?_
  refine xV.cI rfl rfl g_mA_init_1 mAbstractList_init_ok (Nat.le_of_ble_eq_true rfl) (Nat.le_of_ble_eq_true rfl) c1 ?_
  refine xV.step rfl ?_
  refine xV.gst rfl w_gst ?_
  refine xV.put xcl_ok rfl xput_get rfl rfl rfl (Nat.le_of_ble_eq_true rfl) ?_
  rw [xput_put]
  exact xV.vret rfl rfl ⟨rfl, rfl⟩
theorem c_newLen {n : Nat} (hn : n = 10 ∨ n = 15 ∨ n = 22 ∨ n = 33 ∨ n = 49) : xV D N0 mArraysSupport_newLength (d + 1) 0 (xargs 4 [.int (nI n), .int (nI 1), .int (nI (n / 2))]) [] h (xEq (.returned (some (.int (nI (n + n / 2))))) h) := by
  refine xV.step rfl ?_
  refine xV.step rfl ?_
  refine xV.step rfl ?_
  refine xV.max rfl g_newLen_max (Nat.le_of_ble_eq_true rfl) ?_
  have e : (if nI 1 < nI (n / 2) then nI (n / 2) else nI 1) = nI (n / 2) := by
    rcases hn with rfl | rfl | rfl | rfl | rfl <;> decide
  rw [e]
  repeat' refine xV.step rfl ?_
  rw [xn_add]
  have h0 : ¬ nI (n + n / 2) ≤ 0 ∧ ¬ 2147483639 < nI (n + n / 2) := by
    rcases hn with rfl | rfl | rfl | rfl | rfl <;> decide
  refine xV.br rfl (fun h1 => absurd h1 h0.1) (fun h1 => ?_)
  repeat' refine xV.step rfl ?_
  refine xV.br rfl (fun h2 => absurd h2 h0.2) (fun h2 => ?_)
  refine xV.step rfl ?_
  exact xV.iret rfl rfl rfl ⟨rfl, rfl⟩
/-- a new array with what the old one held -/
theorem c_copyOf {e n N : Nat} {g : Nat → Option Nat} (he : xget h e = some (.inl (false, .object "java/lang/Object", n, .inr (.inr (.inr (.inr g)))))) (hn : n ≤ N) (hN : N ≤ 1024) (hl : e < h.1) (hel : ∀ i y, i < n → g i = some y → ∃ (ci : Nat) (fs : List Value) (q : vw_C), xget h y = some (.inr (ci, fs)) ∧ y < h.1 ∧ xcl[ci]? = some q ∧ xW (.castable q.1 "java/lang/Object")) (hc1 : h.2.1 + 1 ≤ xCmax) (hc2 : h.2.2.1 + N ≤ xSmax) :
    xV D N0 mArrays_copyOf (d + 2) 0 (xargs 2 [.ref e, .int (nI N)]) [] h (xEq (.returned (some (.ref h.1))) (xnew h (oA N (va_cpy g (fun _ => none) 0 0 n)) N)) := by
  have c2 : xV D N0 mArrays_copyOf2 (d + 1) 0 (xargs 4 [.ref e, .int (nI N), .ref (D.1 1001)]) [] h (xEq (.returned (some (.ref h.1))) (xnew h (oA N (va_cpy g (fun _ => none) 0 0 n)) N)) := by
    refine xV.step rfl ?_
    refine xV.ldC rfl w_ldC ?_
    refine xV.br rfl (fun h1 => ?_) (fun h1 => absurd rfl h1)
    refine xV.step rfl ?_
    refine xV.anew (N := N) rfl w_anew2 (xn_nonneg (by omega)) (xn_clamp (by omega)) (by omega) hc1 hc2 ?_
    have he1 : xget (xnew h (oA N (fun _ => none)) N) e = some (.inl (false, .object "java/lang/Object", n, .inr (.inr (.inr (.inr g))))) := by rw [xnew_ne (by omega)]; exact he
    refine xV.step rfl ?_
    refine xV.step rfl ?_
    refine xV.step rfl ?_
    refine xV.step rfl ?_
    refine xV.step rfl ?_
    refine xV.step rfl ?_
    refine xV.step rfl ?_
    refine xV.alen rfl he1 ?_
    show xV D N0 mArrays_copyOf2 (d + 1) 31 _ [.int (nI n), .int 0, .ref h.1, .int 0, .ref e] _ _
    refine xV.step rfl ?_
    refine xV.min rfl g_copyOf2_min (Nat.le_of_ble_eq_true rfl) ?_
    rw [if_neg (show ¬ nI N < nI n from by rw [xn_lt (by omega) (by omega)]; omega)]
    refine xV.cpQ (n := n) rfl w_cpA he1 new_get (fun i y hi hy => ?_) (Nat.le_refl _) hn (by omega) hN (by decide +kernel) ?_
    · obtain ⟨ci, fs, q, z1, z2, z3, z4⟩ := hel i y hi hy
      exact ⟨ci, fs, q, by rw [xnew_ne (by omega)]; exact z1, z3, z4⟩
    rw [new_put]
    refine xV.step rfl ?_
    exact xV.aret rfl rfl (Or.inr ⟨_, rfl⟩) (Or.inr ⟨_, rfl⟩) ⟨rfl, rfl⟩
  refine xV.step rfl ?_
  refine xV.step rfl ?_
  refine xV.step rfl ?_
  refine xV.gcl rfl w_gcl he (Nat.le_of_ble_eq_true rfl) ?_
  refine xV.cS rfl rfl g_mArrays_copyOf_300 mArrays_copyOf2_ok (Nat.le_of_ble_eq_true rfl) (Nat.le_of_ble_eq_true rfl) c2 ?_
  exact xV.aret rfl rfl (Or.inr ⟨_, rfl⟩) (Or.inr ⟨_, rfl⟩) ⟨rfl, rfl⟩
end X53
