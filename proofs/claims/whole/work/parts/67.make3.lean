/- Part 67: the constructors of Channel and Payment. -/
theorem put_in {h : XH} {a n : Nat} {c c' : XC} (hn : a ≠ h.1) : xput (xnew h c n) a c' = xnew (xput h a c') c n := (put_new hn).symm
def hC0 (h : XH) (a dc : Nat) (f s o t : Int32) : XH := xput (xnew (xnew (xnew h (.inl (false, .int, 64, .inl (upd (fun _ => 0) 0 o))) 64) (.inl (false, .int, 64, .inl (upd (fun _ => 0) 0 t))) 64) (lF dc 0 0) 3) a (.inr (4, chF f s h.1 (h.1 + 1) (h.1 + 2) (nI 0) 0 (o + t) (-1) (-1) (-1) false))
section X67
variable {D : va_G} {N0 : Nat} {d a : Nat} {h : XH}
theorem c_C_init (ha : xget h a = some (.inr (4, xdf 4))) (hl : a < h.1) (hc1 : h.2.1 + 3 ≤ xCmax) (hc2 : h.2.2.1 + 131 ≤ xSmax) {f s o t : Int32} : xV D N0 mC_init (d + 4) 0 (xargs 5 [.ref a, .int f, .int s, .int o, .int t]) [] h (xEq (.returned none) (hC0 h a (D.1 1000) f s o t)) := by
  refine xV.step rfl ?_
  refine xV.obj rfl g_mC_init_3 (Nat.le_of_ble_eq_true rfl) ?_
  refine xV.step rfl ?_
  refine xV.step rfl ?_
  refine xV.nwI (N := 64) rfl rfl (by omega) (by omega) (by omega) ?_
  refine xV.put xcl_ok rfl (fs := xdf 4) (by rw [xnew_ne (by omega)]; exact ha) rfl rfl rfl (Nat.le_of_ble_eq_true rfl) ?_
  refine xV.step rfl ?_
  refine xV.step rfl ?_
  refine xV.nwI (N := 64) rfl rfl (by omega) (by show h.2.1 + 1 + 1 ≤ _; omega) (by show h.2.2.1 + 64 + 64 ≤ _; omega) ?_
  rw [put_new (by show a ≠ h.1 + 1; omega)]
  refine xV.put xcl_ok rfl xput_get rfl rfl rfl (Nat.le_of_ble_eq_true rfl) ?_
  rw [xput_put]
  refine xV.step rfl ?_
  refine xV.new xcl_ok (ci := 2) rfl rfl n_mC_init_18 (by show h.2.1 + 1 + 1 + 1 ≤ _; omega) (by show h.2.2.1 + 64 + 64 + 3 ≤ _; omega) ?_
  rw [put_new (by show a ≠ h.1 + 1 + 1; omega)]
  refine xV.step rfl ?_
  refine xV.cI rfl rfl g_mC_init_20 mA_init_ok (Nat.le_of_ble_eq_true rfl) (Nat.le_of_ble_eq_true rfl) (c_A_init (by rw [xput_ne (by show h.1 + 1 + 1 ≠ a; omega)]; exact new_get)) ?_
  have e0 : ∀ c : XC, xput (xnew (xnew (xnew h (.inl (false, .int, 64, .inl fun _ => 0)) 64) (.inl (false, .int, 64, .inl fun _ => 0)) 64) (.inr (2, xdf 2)) 3) (h.1 + 1 + 1) c = xnew (xnew (xnew h (.inl (false, .int, 64, .inl fun _ => 0)) 64) (.inl (false, .int, 64, .inl fun _ => 0)) 64) c 3 := fun c => new_put
  show xV D N0 mC_init (d + 4) 28 _ [.ref (h.1 + 1 + 1), .ref a] (xput (xput (xnew (xnew (xnew h (.inl (false, .int, 64, .inl fun _ => 0)) 64) (.inl (false, .int, 64, .inl fun _ => 0)) 64) (.inr (2, xdf 2)) 3) a (.inr (4, ((xdf 4).set 2 (.ref h.1)).set 3 (.ref (h.1 + 1))))) (h.1 + 1 + 1) (lF (D.1 1000) 0 0)) _
  rw [xput_comm (b := h.1 + 1 + 1) (by omega), e0]
  refine xV.put xcl_ok rfl xput_get rfl rfl rfl (Nat.le_of_ble_eq_true rfl) ?_
  rw [xput_put]
  iterate 8
    refine xV.step rfl ?_
    refine xV.step rfl ?_
    refine xV.put xcl_ok rfl xput_get rfl rfl rfl (Nat.le_of_ble_eq_true rfl) ?_
    rw [xput_put]
  refine xV.step rfl ?_
  refine xV.get xcl_ok rfl xput_get rfl ?_
  refine xV.step rfl ?_
  refine xV.step rfl ?_
  refine xV.is (f := fun _ => 0) (n := 64) (j := 0) rfl (by rw [xput_ne (by omega), xnew_ne (by show h.1 ≠ h.1 + 1 + 1; omega), xnew_ne (by show h.1 ≠ h.1 + 1; omega)]; exact new_get) rfl (by omega) (by omega) ?_
  have e2 : ∀ A B C A' : XC, xput (xnew (xnew (xnew h A 64) B 64) C 3) h.1 A' = xnew (xnew (xnew h A' 64) B 64) C 3 := fun A B C A' => by
    rw [put_in (h := xnew (xnew h A 64) B 64) (by show h.1 ≠ h.1 + 1 + 1; omega), put_in (h := xnew h A 64) (by show h.1 ≠ h.1 + 1; omega), new_put]
  rw [xput_comm (b := h.1) (by omega), e2]
  refine xV.step rfl ?_
  refine xV.get xcl_ok rfl xput_get rfl ?_
  refine xV.step rfl ?_
  refine xV.step rfl ?_
  refine xV.is (f := fun _ => 0) (n := 64) (j := 0) rfl (by rw [xput_ne (by omega), xnew_ne (by show h.1 + 1 ≠ h.1 + 1 + 1; omega)]; exact new_get) rfl (by omega) (by omega) ?_
  have e3 : ∀ A B C B' : XC, xput (xnew (xnew (xnew h A 64) B 64) C 3) (h.1 + 1) B' = xnew (xnew (xnew h A 64) B' 64) C 3 := fun A B C B' => by
    rw [put_in (h := xnew (xnew h A 64) B 64) (by show h.1 + 1 ≠ h.1 + 1 + 1; omega)]
    show xnew (xput (xnew (xnew h A 64) B 64) (xnew h A 64).1 B') C 3 = _
    rw [new_put]
  rw [xput_comm (b := h.1 + 1) (by omega), e3]
  refine xV.step rfl ?_
  refine xV.step rfl ?_
  refine xV.step rfl ?_
  refine xV.step rfl ?_
  refine xV.put xcl_ok rfl xput_get rfl rfl rfl (Nat.le_of_ble_eq_true rfl) ?_
  rw [xput_put]
  exact xV.vret rfl rfl ⟨rfl, rfl⟩
end X67
