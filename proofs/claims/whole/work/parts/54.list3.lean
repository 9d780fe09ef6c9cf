/- Part 54: grow, add. -/
section X54
variable {D : va_G} {N0 : Nat} {d a e n x ci cap : Nat} {h : XH} {mo : Int32} {g : Nat → Option Nat} {fs : List Value} {q : vw_C}
/-- a list with no array of its own gets one -/
theorem c_A_grow_first {g0 : Nat → Option Nat} (ha : xget h a = some (lF (D.1 1000) 0 mo)) (he : xget h (D.1 1000) = some (.inl (true, .object "java/lang/Object", 0, .inr (.inr (.inr (.inr g0)))))) (hl : a < h.1) (hc1 : h.2.1 + 1 ≤ xCmax) (hc2 : h.2.2.1 + 10 ≤ xSmax) :
    xV D N0 mA_grow (d + 4) 0 (xargs 1 [.ref a]) [] h (xEq (.returned (some (.ref h.1))) (xput (xnew h (oA 10 (fun _ => none)) 10) a (lF h.1 0 mo))) := by
  have c2 : xV D N0 mA_grow2 (d + 3) 0 (xargs 4 [.ref a, .int (nI 1)]) [] h (xEq (.returned (some (.ref h.1))) (xput (xnew h (oA 10 (fun _ => none)) 10) a (lF h.1 0 mo))) := by
    refine xV.step rfl ?_
    refine xV.get xcl_ok rfl ha rfl ?_
    refine xV.alen rfl he ?_
    show xV D N0 mA_grow2 (d + 3) 5 _ [.int (nI 0)] _ _
    refine xV.step rfl ?_
    refine xV.step rfl ?_
    refine xV.br rfl (fun h1 => absurd h1 (by decide)) (fun h1 => ?_)
    refine xV.step rfl ?_
    refine xV.get xcl_ok rfl ha rfl ?_
    refine xV.gst rfl w_gst ?_
    refine xV.br rfl (fun h1 => ?_) (fun h1 => absurd rfl h1)
    refine xV.step rfl ?_
    refine xV.step rfl ?_
    refine xV.step rfl ?_
    refine xV.max rfl g_grow2_max (Nat.le_of_ble_eq_true rfl) ?_
    refine xV.anew (N := 10) rfl w_anew7 (by decide) (by decide) (by omega) hc1 hc2 ?_
    have ha1 : xget (xnew h (oA 10 (fun _ => none)) 10) a = some (lF (D.1 1000) 0 mo) := by rw [xnew_ne (by omega)]; exact ha
    refine xV.step rfl ?_
    refine xV.put xcl_ok rfl ha1 rfl rfl rfl (Nat.le_of_ble_eq_true rfl) ?_
    exact xV.aret rfl rfl (Or.inr ⟨_, rfl⟩) (Or.inr ⟨_, rfl⟩) ⟨rfl, rfl⟩
  refine xV.step rfl ?_
  refine xV.step rfl ?_
  refine xV.get xcl_ok rfl ha rfl ?_
  refine xV.step rfl ?_
  refine xV.step rfl ?_
  rw [xn_succ]
  refine xV.cV rfl rfl ha rfl g_mA_grow_69 mA_grow2_ok (Nat.le_of_ble_eq_true rfl) (Nat.le_of_ble_eq_true rfl) c2 ?_
  exact xV.aret rfl rfl (Or.inr ⟨_, rfl⟩) (Or.inr ⟨_, rfl⟩) ⟨rfl, rfl⟩
/-- a full list gets a larger array -/
theorem c_A_grow_full (ha : xget h a = some (lF e n mo)) (he : xget h e = some (oA n g)) (hn : n = 10 ∨ n = 15 ∨ n = 22 ∨ n = 33 ∨ n = 49) (hl : a < h.1) (hl2 : e < h.1) (hel : ∀ i y, i < n → g i = some y → ∃ (ci : Nat) (fs : List Value) (q : vw_C), xget h y = some (.inr (ci, fs)) ∧ y < h.1 ∧ xcl[ci]? = some q ∧ xW (.castable q.1 "java/lang/Object")) (hc1 : h.2.1 + 1 ≤ xCmax) (hc2 : h.2.2.1 + (n + n / 2) ≤ xSmax) :
    xV D N0 mA_grow (d + 4) 0 (xargs 1 [.ref a]) [] h (xEq (.returned (some (.ref h.1))) (xput (xnew h (oA (n + n / 2) (va_cpy g (fun _ => none) 0 0 n)) (n + n / 2)) a (lF h.1 n mo))) := by
  have c2 : xV D N0 mA_grow2 (d + 3) 0 (xargs 4 [.ref a, .int (nI (n + 1))]) [] h (xEq (.returned (some (.ref h.1))) (xput (xnew h (oA (n + n / 2) (va_cpy g (fun _ => none) 0 0 n)) (n + n / 2)) a (lF h.1 n mo))) := by
    refine xV.step rfl ?_
    refine xV.get xcl_ok rfl ha rfl ?_
    refine xV.alen rfl he ?_
    show xV D N0 mA_grow2 (d + 3) 5 _ [.int (nI n)] _ _
    refine xV.step rfl ?_
    refine xV.step rfl ?_
    refine xV.br rfl (fun h1 => ?_) (fun h1 => absurd (by rcases hn with rfl | rfl | rfl | rfl | rfl <;> decide) h1)
    repeat' refine xV.step rfl ?_
    have e1 : nI (n + 1) - nI n = nI 1 := by rcases hn with rfl | rfl | rfl | rfl | rfl <;> decide
    have e2 : nI n >>> ((1 : Int32) &&& 31) = nI (n / 2) := by rcases hn with rfl | rfl | rfl | rfl | rfl <;> decide
    rw [e1, e2]
    refine xV.cS rfl rfl g_mA_grow2_73 mArraysSupport_newLength_ok (Nat.le_of_ble_eq_true rfl) (Nat.le_of_ble_eq_true rfl) (c_newLen hn) ?_
    refine xV.step rfl ?_
    refine xV.step rfl ?_
    refine xV.step rfl ?_
    refine xV.get xcl_ok rfl ha rfl ?_
    refine xV.step rfl ?_
    refine xV.cS rfl rfl g_mA_grow2_66 mArrays_copyOf_ok (Nat.le_of_ble_eq_true rfl) (Nat.le_of_ble_eq_true rfl) (c_copyOf he (by omega) (by omega) hl2 hel hc1 hc2) ?_
    have ha1 : xget (xnew h (oA (n + n / 2) (va_cpy g (fun _ => none) 0 0 n)) (n + n / 2)) a = some (lF e n mo) := by rw [xnew_ne (by omega)]; exact ha
    refine xV.step rfl ?_
    refine xV.put xcl_ok rfl ha1 rfl rfl rfl (Nat.le_of_ble_eq_true rfl) ?_
    exact xV.aret rfl rfl (Or.inr ⟨_, rfl⟩) (Or.inr ⟨_, rfl⟩) ⟨rfl, rfl⟩
  refine xV.step rfl ?_
  refine xV.step rfl ?_
  refine xV.get xcl_ok rfl ha rfl ?_
  refine xV.step rfl ?_
  refine xV.step rfl ?_
  rw [xn_succ]
  refine xV.cV rfl rfl ha rfl g_mA_grow_69 mA_grow2_ok (Nat.le_of_ble_eq_true rfl) (Nat.le_of_ble_eq_true rfl) c2 ?_
  exact xV.aret rfl rfl (Or.inr ⟨_, rfl⟩) (Or.inr ⟨_, rfl⟩) ⟨rfl, rfl⟩
theorem c_A_add_room (ha : xget h a = some (lF e n mo)) (he : xget h e = some (oA cap g)) (hn : n < cap) (hcap : cap ≤ 1024) (hx : xget h x = some (.inr (ci, fs))) (hq : xcl[ci]? = some q) (hw : xW (.castable q.1 "java/lang/Object")) (n1 : e ≠ a) (n2 : x ≠ a) :
    xV D N0 mA_add (d + 1) 0 (xargs 2 [.ref a, .ref x]) [] h (xEq (.returned (some (.int 1))) (xput (xput h e (oA cap (va_up g n (some x)))) a (lF e (n + 1) (mo + 1)))) := by
  have ha1 : xget (xput h a (lF e n (mo + 1))) a = some (lF e n (mo + 1)) := xput_get
  have he1 : xget (xput h a (lF e n (mo + 1))) e = some (oA cap g) := by rw [xput_ne n1]; exact he
  have hx1 : xget (xput h a (lF e n (mo + 1))) x = some (.inr (ci, fs)) := by rw [xput_ne n2]; exact hx
  have c2 : xV D N0 mA_add2 d 0 (xargs 4 [.ref a, .ref x, .ref e, .int (nI n)]) [] (xput h a (lF e n (mo + 1))) (xEq (.returned none) (xput (xput h e (oA cap (va_up g n (some x)))) a (lF e (n + 1) (mo + 1)))) := by
    refine xV.step rfl ?_
    refine xV.step rfl ?_
    refine xV.alen rfl he1 ?_
    show xV D N0 mA_add2 d 3 _ [.int (nI cap), .int (nI n)] _ _
    refine xV.br rfl (fun h1 => ?_) (fun h1 => ?_)
    · rw [xn_inj (by omega) (by omega)] at h1
      omega
    refine xV.step rfl ?_
    refine xV.step rfl ?_
    refine xV.step rfl ?_
    refine xV.aast rfl he1 hx1 hq hw (xn_in hn (by omega)) ?_
    rw [xn_clamp (by omega)]
    refine xV.step rfl ?_
    refine xV.step rfl ?_
    refine xV.step rfl ?_
    refine xV.step rfl ?_
    rw [xn_succ]
    have ha2 : xget (xput (xput h a (lF e n (mo + 1))) e (oA cap (va_up g n (some x)))) a = some (lF e n (mo + 1)) := by rw [xput_ne (Ne.symm n1)]; exact ha1
    refine xV.put xcl_ok rfl ha2 rfl rfl rfl (Nat.le_of_ble_eq_true rfl) ?_
    refine xV.vret rfl rfl ⟨rfl, ?_⟩
    rw [xput_comm (Ne.symm n1), xput_put]
    rfl
  refine xV.step rfl ?_
  refine xV.step rfl ?_
  refine xV.get xcl_ok rfl ha rfl ?_
  refine xV.step rfl ?_
  refine xV.step rfl ?_
  refine xV.put xcl_ok rfl ha rfl rfl rfl (Nat.le_of_ble_eq_true rfl) ?_
  refine xV.step rfl ?_
  refine xV.step rfl ?_
  refine xV.step rfl ?_
  refine xV.get xcl_ok rfl ha1 rfl ?_
  refine xV.step rfl ?_
  refine xV.get xcl_ok rfl ha1 rfl ?_
  refine xV.cV rfl rfl ha1 rfl g_mA_add_131 mA_add2_ok (Nat.le_of_ble_eq_true rfl) (Nat.le_of_ble_eq_true rfl) c2 ?_
  refine xV.step rfl ?_
  exact xV.iret rfl rfl rfl ⟨rfl, rfl⟩
/-- with a new array, of room cap, that holds g -/
theorem c_A_add_grow {e0 n0 : Nat} {ro : Bool} {g0 : Nat → Option Nat} (ha : xget h a = some (lF e0 n mo)) (he : xget h e0 = some (.inl (ro, .object "java/lang/Object", n, .inr (.inr (.inr (.inr g0)))))) (hn1 : n ≤ 1024) (hcap : n < cap) (hcap2 : cap ≤ 1024) (hx : xget h x = some (.inr (ci, fs))) (hq : xcl[ci]? = some q) (hw : xW (.castable q.1 "java/lang/Object")) (n1 : e0 ≠ a) (n2 : x ≠ a) (hl : a < h.1) (hlx : x < h.1) (hn0 : n0 = cap)
    (hg : xV D N0 mA_grow (d + 4) 0 (xargs 1 [.ref a]) [] (xput h a (lF e0 n (mo + 1))) (xEq (.returned (some (.ref h.1))) (xput (xnew (xput h a (lF e0 n (mo + 1))) (oA cap g) n0) a (lF h.1 n (mo + 1))))) :
    xV D N0 mA_add (d + 6) 0 (xargs 2 [.ref a, .ref x]) [] h (xEq (.returned (some (.int 1))) (xput (xnew h (oA cap (va_up g n (some x))) cap) a (lF h.1 (n + 1) (mo + 1)))) := by
  subst hn0
  have ha1 : xget (xput h a (lF e0 n (mo + 1))) a = some (lF e0 n (mo + 1)) := xput_get
  have he1 : xget (xput h a (lF e0 n (mo + 1))) e0 = some (.inl (ro, .object "java/lang/Object", n, .inr (.inr (.inr (.inr g0))))) := by rw [xput_ne n1]; exact he
  have e1 : xput (xnew (xput h a (lF e0 n (mo + 1))) (oA n0 g) n0) a (lF h.1 n (mo + 1)) = xput (xnew h (oA n0 g) n0) a (lF h.1 n (mo + 1)) := by rw [put_new (by omega), xput_put]
  rw [e1] at hg
  have c2 : xV D N0 mA_add2 (d + 5) 0 (xargs 4 [.ref a, .ref x, .ref e0, .int (nI n)]) [] (xput h a (lF e0 n (mo + 1))) (xEq (.returned none) (xput (xnew h (oA n0 (va_up g n (some x))) n0) a (lF h.1 (n + 1) (mo + 1)))) := by
    refine xV.step rfl ?_
    refine xV.step rfl ?_
    refine xV.alen rfl he1 ?_
    show xV D N0 mA_add2 (d + 5) 3 _ [.int (nI n), .int (nI n)] _ _
    refine xV.br rfl (fun h1 => ?_) (fun h1 => absurd rfl h1)
    refine xV.step rfl ?_
    refine xV.cV rfl rfl ha1 rfl g_mA_add2_129 mA_grow_ok (Nat.le_of_ble_eq_true rfl) (Nat.le_of_ble_eq_true rfl) hg ?_
    refine xV.step rfl ?_
    have he2 : xget (xput (xnew h (oA n0 g) n0) a (lF h.1 n (mo + 1))) h.1 = some (oA n0 g) := by rw [xput_ne (by omega)]; exact new_get
    have hx2 : xget (xput (xnew h (oA n0 g) n0) a (lF h.1 n (mo + 1))) x = some (.inr (ci, fs)) := by rw [xput_ne n2, xnew_ne (by omega)]; exact hx
    refine xV.step rfl ?_
    refine xV.step rfl ?_
    refine xV.step rfl ?_
    refine xV.aast rfl he2 hx2 hq hw (xn_in hcap (by omega)) ?_
    rw [xn_clamp (by omega)]
    refine xV.step rfl ?_
    refine xV.step rfl ?_
    refine xV.step rfl ?_
    refine xV.step rfl ?_
    rw [xn_succ]
    have ha2 : xget (xput (xput (xnew h (oA n0 g) n0) a (lF h.1 n (mo + 1))) h.1 (oA n0 (va_up g n (some x)))) a = some (lF h.1 n (mo + 1)) := by rw [xput_ne (by omega)]; exact xput_get
    refine xV.put xcl_ok rfl ha2 rfl rfl rfl (Nat.le_of_ble_eq_true rfl) ?_
    refine xV.vret rfl rfl ⟨rfl, ?_⟩
    rw [xput_comm (a := a) (b := h.1) (by omega), xput_put, new_put]
    rfl
  refine xV.step rfl ?_
  refine xV.step rfl ?_
  refine xV.get xcl_ok rfl ha rfl ?_
  refine xV.step rfl ?_
  refine xV.step rfl ?_
  refine xV.put xcl_ok rfl ha rfl rfl rfl (Nat.le_of_ble_eq_true rfl) ?_
  refine xV.step rfl ?_
  refine xV.step rfl ?_
  refine xV.step rfl ?_
  refine xV.get xcl_ok rfl ha1 rfl ?_
  refine xV.step rfl ?_
  refine xV.get xcl_ok rfl ha1 rfl ?_
  refine xV.cV rfl rfl ha1 rfl g_mA_add_131 mA_add2_ok (Nat.le_of_ble_eq_true rfl) (Nat.le_of_ble_eq_true rfl) c2 ?_
  refine xV.step rfl ?_
  exact xV.iret rfl rfl rfl ⟨rfl, rfl⟩
end X54
