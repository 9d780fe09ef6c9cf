/- Part 49: the constructors of Secrets and Route; what the ledger pays. -/
theorem put_new {h : XH} {a n : Nat} {c c' : XC} (hn : a ≠ h.1) : xnew (xput h a c') c n = xput (xnew h c n) a c' := by
  refine Prod.ext rfl (Prod.ext rfl (Prod.ext rfl ?_))
  funext x
  show (if x = h.1 then some c else if x = a then some c' else h.2.2.2 x) = if x = a then some c' else if x = h.1 then some c else h.2.2.2 x
  by_cases h1 : x = a
  · rw [if_pos h1, if_neg (by omega), if_pos h1]
  · rw [if_neg h1, if_neg h1]
def zI (n : Nat) : XC := .inl (false, .int, n, .inl fun _ => 0)
def zJ (n : Nat) : XC := .inl (false, .long, n, .inr (.inl fun _ => 0))
section X49
variable {D : va_G} {N0 : Nat} {d a : Nat} {h : XH}
theorem c_S_init (ha : xget h a = some (.inr (1, xdf 1))) (hl : a < h.1) (hc1 : h.2.1 + 2 ≤ xCmax) (hc2 : h.2.2.1 + 48 ≤ xSmax) :
    xV D N0 mS_init (d + 1) 0 (xargs 1 [.ref a]) [] h (xEq (.returned none) (xput (xnew (xnew h (zJ 24) 24) (zI 24) 24) a (.inr (1, [.ref h.1, .ref (h.1 + 1), .int (nI 0)])))) := by
  refine xV.step rfl ?_
  refine xV.obj rfl g_mS_init_3 (Nat.le_of_ble_eq_true rfl) ?_
  refine xV.step rfl ?_
  refine xV.step rfl ?_
  refine xV.nwJ (N := 24) rfl rfl (by omega) (by omega) (by omega) ?_
  refine xV.put xcl_ok rfl (fs := xdf 1) (by rw [xnew_ne (by omega)]; exact ha) rfl rfl rfl (Nat.le_of_ble_eq_true rfl) ?_
  refine xV.step rfl ?_
  refine xV.step rfl ?_
  refine xV.nwI (N := 24) rfl rfl (by omega) (by show h.2.1 + 1 + 1 ≤ _; omega) (by show h.2.2.1 + 24 + 24 ≤ _; omega) ?_
  rw [put_new (by show a ≠ h.1 + 1; omega)]
  refine xV.put xcl_ok rfl xput_get rfl rfl rfl (Nat.le_of_ble_eq_true rfl) ?_
  rw [xput_put]
  refine xV.step rfl ?_
  refine xV.step rfl ?_
  refine xV.put xcl_ok rfl xput_get rfl rfl rfl (Nat.le_of_ble_eq_true rfl) ?_
  rw [xput_put]
  exact xV.vret rfl rfl ⟨rfl, rfl⟩
theorem c_R_init (ha : xget h a = some (.inr (3, xdf 3))) (hl : a < h.1) (hc1 : h.2.1 + 3 ≤ xCmax) (hc2 : h.2.2.1 + 15 ≤ xSmax) :
    xV D N0 mR_init (d + 1) 0 (xargs 1 [.ref a]) [] h (xEq (.returned none) (xput (xnew (xnew (xnew h (zI 5) 5) (zI 5) 5) (zI 5) 5) a (.inr (3, roF h.1 (h.1 + 1) (h.1 + 2) (nI 0))))) := by
  refine xV.step rfl ?_
  refine xV.obj rfl g_mR_init_3 (Nat.le_of_ble_eq_true rfl) ?_
  refine xV.step rfl ?_
  refine xV.step rfl ?_
  refine xV.nwI (N := 5) rfl rfl (by omega) (by omega) (by omega) ?_
  refine xV.put xcl_ok rfl (fs := xdf 3) (by rw [xnew_ne (by omega)]; exact ha) rfl rfl rfl (Nat.le_of_ble_eq_true rfl) ?_
  refine xV.step rfl ?_
  refine xV.step rfl ?_
  refine xV.nwI (N := 5) rfl rfl (by omega) (by show h.2.1 + 1 + 1 ≤ _; omega) (by show h.2.2.1 + 5 + 5 ≤ _; omega) ?_
  rw [put_new (by show a ≠ h.1 + 1; omega)]
  refine xV.put xcl_ok rfl xput_get rfl rfl rfl (Nat.le_of_ble_eq_true rfl) ?_
  rw [xput_put]
  refine xV.step rfl ?_
  refine xV.step rfl ?_
  refine xV.nwI (N := 5) rfl rfl (by omega) (by show h.2.1 + 1 + 1 + 1 ≤ _; omega) (by show h.2.2.1 + 5 + 5 + 5 ≤ _; omega) ?_
  rw [put_new (by show a ≠ h.1 + 1 + 1; omega)]
  refine xV.put xcl_ok rfl xput_get rfl rfl rfl (Nat.le_of_ble_eq_true rfl) ?_
  rw [xput_put]
  refine xV.step rfl ?_
  refine xV.step rfl ?_
  refine xV.put xcl_ok rfl xput_get rfl rfl rfl (Nat.le_of_ble_eq_true rfl) ?_
  rw [xput_put]
  exact xV.vret rfl rfl ⟨rfl, rfl⟩
end X49
section Y49
variable {D : va_G} {N0 : Nat} {d a : Nat} {h : XH} {co ba pa de wa se ch py la tr o b1 b2 pl : Nat} {hg f s lt st he pu pd pb : Int32} {sd : Bool} {c c1 c2 : Nat → Int32}
theorem c_N_payPunisher {v : Nat} (ha : xget h a = some (.inr (0, neF co ba pa de wa se ch py la tr hg))) (hc : xget h o = some (.inr (4, chF f s b1 b2 pl lt st he pu pd pb sd))) (hk : xget h co = some (.inl (false, .int, 6, .inl c))) (hv : (if pu = f then s else f) = nI v) (hv2 : v < 6) (n1 : o ≠ co) :
    xV D N0 mN_payPunisher (d + 2) 0 (xargs 2 [.ref a, .ref o]) [] h (xEq (.returned none) (xput (xput h co (.inl (false, .int, 6, .inl (upd c v (c v + he))))) o (.inr (4, chF f s b1 b2 pl lt 2 0 pu pd pb sd)))) := by
  refine xV.step rfl ?_
  refine xV.get xcl_ok rfl ha rfl ?_
  refine xV.step rfl ?_
  refine xV.cV rfl rfl hc rfl g_mN_payPunisher_265 mC_punisher_ok (Nat.le_of_ble_eq_true rfl) (Nat.le_of_ble_eq_true rfl) (c_C_punisher hc) ?_
  rw [hv]
  refine xV.step rfl ?_
  refine xV.ii (j := v) rfl hk rfl hv2 (by omega) ?_
  refine xV.step rfl ?_
  refine xV.get xcl_ok rfl hc rfl ?_
  refine xV.step rfl ?_
  refine xV.is (j := v) rfl hk rfl hv2 (by omega) ?_
  have hc1 : xget (xput h co (.inl (false, .int, 6, .inl (upd c v (c v + he))))) o = some (.inr (4, chF f s b1 b2 pl lt st he pu pd pb sd)) := by rw [xput_ne n1]; exact hc
  refine xV.step rfl ?_
  refine xV.step rfl ?_
  refine xV.put xcl_ok rfl hc1 rfl rfl rfl (Nat.le_of_ble_eq_true rfl) ?_
  refine xV.step rfl ?_
  refine xV.step rfl ?_
  refine xV.put xcl_ok rfl xput_get rfl rfl rfl (Nat.le_of_ble_eq_true rfl) ?_
  rw [xput_put]
  exact xV.vret rfl rfl ⟨rfl, rfl⟩
theorem c_N_payBalances {v w l : Nat} (ha : xget h a = some (.inr (0, neF co ba pa de wa se ch py la tr hg))) (hc : xget h o = some (.inr (4, chF (nI v) (nI w) b1 b2 pl lt st he pu pd pb sd))) (hk : xget h co = some (.inl (false, .int, 6, .inl c))) (h1 : xget h b1 = some (.inl (false, .int, 64, .inl c1))) (h2 : xget h b2 = some (.inl (false, .int, 64, .inl c2))) (hv : v < 6) (hw : w < 6) (hl : l < 64) (n1 : o ≠ co) (n2 : a ≠ co) (n3 : b1 ≠ co) (n4 : b2 ≠ co) :
    xV D N0 mN_payBalances d 0 (xargs 3 [.ref a, .ref o, .int (nI l)]) [] h (xEq (.returned none) (xput (xput h co (.inl (false, .int, 6, .inl (upd (upd c v (c v + c1 l)) w (upd c v (c v + c1 l) w + c2 l))))) o (.inr (4, chF (nI v) (nI w) b1 b2 pl lt st (he - (c1 l + c2 l)) pu pd pb sd)))) := by
  refine xV.step rfl ?_
  refine xV.get xcl_ok rfl ha rfl ?_
  refine xV.step rfl ?_
  refine xV.get xcl_ok rfl hc rfl ?_
  refine xV.step rfl ?_
  refine xV.ii (j := v) rfl hk rfl hv (by omega) ?_
  refine xV.step rfl ?_
  refine xV.get xcl_ok rfl hc rfl ?_
  refine xV.step rfl ?_
  refine xV.ii (j := l) rfl h1 rfl hl (by omega) ?_
  refine xV.step rfl ?_
  refine xV.is (j := v) rfl hk rfl hv (by omega) ?_
  have ha1 : xget (xput h co (.inl (false, .int, 6, .inl (upd c v (c v + c1 l))))) a = some (.inr (0, neF co ba pa de wa se ch py la tr hg)) := by rw [xput_ne n2]; exact ha
  have hc1 : xget (xput h co (.inl (false, .int, 6, .inl (upd c v (c v + c1 l))))) o = some (.inr (4, chF (nI v) (nI w) b1 b2 pl lt st he pu pd pb sd)) := by rw [xput_ne n1]; exact hc
  refine xV.step rfl ?_
  refine xV.get xcl_ok rfl ha1 rfl ?_
  refine xV.step rfl ?_
  refine xV.get xcl_ok rfl hc1 rfl ?_
  refine xV.step rfl ?_
  refine xV.ii (j := w) rfl xput_get rfl hw (by omega) ?_
  refine xV.step rfl ?_
  refine xV.get xcl_ok rfl hc1 rfl ?_
  refine xV.step rfl ?_
  refine xV.ii (f := c2) (n := 64) (j := l) rfl (by rw [xput_ne n4]; exact h2) rfl hl (by omega) ?_
  refine xV.step rfl ?_
  refine xV.is (j := w) rfl xput_get rfl hw (by omega) ?_
  rw [xput_put]
  have hc2 : xget (xput h co (.inl (false, .int, 6, .inl (upd (upd c v (c v + c1 l)) w (upd c v (c v + c1 l) w + c2 l))))) o = some (.inr (4, chF (nI v) (nI w) b1 b2 pl lt st he pu pd pb sd)) := by rw [xput_ne n1]; exact hc
  refine xV.step rfl ?_
  refine xV.step rfl ?_
  refine xV.get xcl_ok rfl hc2 rfl ?_
  refine xV.step rfl ?_
  refine xV.get xcl_ok rfl hc2 rfl ?_
  refine xV.step rfl ?_
  refine xV.ii (f := c1) (n := 64) (j := l) rfl (by rw [xput_ne n3]; exact h1) rfl hl (by omega) ?_
  refine xV.step rfl ?_
  refine xV.get xcl_ok rfl hc2 rfl ?_
  refine xV.step rfl ?_
  refine xV.ii (f := c2) (n := 64) (j := l) rfl (by rw [xput_ne n4]; exact h2) rfl hl (by omega) ?_
  refine xV.step rfl ?_
  refine xV.step rfl ?_
  refine xV.put xcl_ok rfl hc2 rfl rfl rfl (Nat.le_of_ble_eq_true rfl) ?_
  exact xV.vret rfl rfl ⟨rfl, rfl⟩
theorem c_N_payPromise {v r : Nat} {p q am dl mi gi : Int32} {lo : Int64} {po : Bool} (ha : xget h a = some (.inr (0, neF co ba pa de wa se ch py la tr hg))) (hc : xget h o = some (.inr (4, chF f s b1 b2 pl lt st he pu pd pb sd))) (hp : xget h r = some (.inr (5, prF p q am lo dl mi gi po))) (hk : xget h co = some (.inl (false, .int, 6, .inl c))) (hv : v < 6) (n1 : o ≠ co) (n2 : r ≠ co) (n3 : r ≠ o) :
    xV D N0 mN_payPromise (d + 1) 0 (xargs 4 [.ref a, .ref o, .ref r, .int (nI v)]) [] h (xEq (.returned none) (xput (xput (xput (xput h co (.inl (false, .int, 6, .inl (upd c v (c v + am))))) o (.inr (4, chF f s b1 b2 pl lt st (he - am) pu pd pb sd))) r (.inr (5, prF p q am lo dl mi gi true))) o (.inr (4, chF f s b1 b2 pl lt (cspent st (he - am) sd) (he - am) pu pd pb sd)))) := by
  refine xV.step rfl ?_
  refine xV.get xcl_ok rfl ha rfl ?_
  refine xV.step rfl ?_
  refine xV.step rfl ?_
  refine xV.ii (j := v) rfl hk rfl hv (by omega) ?_
  refine xV.step rfl ?_
  refine xV.get xcl_ok rfl hp rfl ?_
  refine xV.step rfl ?_
  refine xV.is (j := v) rfl hk rfl hv (by omega) ?_
  have hc1 : xget (xput h co (.inl (false, .int, 6, .inl (upd c v (c v + am))))) o = some (.inr (4, chF f s b1 b2 pl lt st he pu pd pb sd)) := by rw [xput_ne n1]; exact hc
  have hp1 : xget (xput h co (.inl (false, .int, 6, .inl (upd c v (c v + am))))) r = some (.inr (5, prF p q am lo dl mi gi po)) := by rw [xput_ne n2]; exact hp
  refine xV.step rfl ?_
  refine xV.step rfl ?_
  refine xV.get xcl_ok rfl hc1 rfl ?_
  refine xV.step rfl ?_
  refine xV.get xcl_ok rfl hp1 rfl ?_
  refine xV.step rfl ?_
  refine xV.put xcl_ok rfl hc1 rfl rfl rfl (Nat.le_of_ble_eq_true rfl) ?_
  refine xV.step rfl ?_
  refine xV.step rfl ?_
  refine xV.put xcl_ok rfl (fs := prF p q am lo dl mi gi po) (by rw [xput_ne n3]; exact hp1) rfl rfl rfl (Nat.le_of_ble_eq_true rfl) ?_
  refine xV.step rfl ?_
  have hc3 : xget (xput (xput (xput h co (.inl (false, .int, 6, .inl (upd c v (c v + am))))) o (.inr (4, chF f s b1 b2 pl lt st (he - am) pu pd pb sd))) r (.inr (5, prF p q am lo dl mi gi true))) o = some (.inr (4, chF f s b1 b2 pl lt st (he - am) pu pd pb sd)) := by rw [xput_ne (fun z => n3 z.symm)]; exact xput_get
  refine xV.cV rfl rfl hc3 rfl g_mN_payPromise_279 mC_closeIfSpent_ok (Nat.le_of_ble_eq_true rfl) (Nat.le_of_ble_eq_true rfl) (c_C_closeIfSpent hc3) ?_
  exact xV.vret rfl rfl ⟨rfl, rfl⟩
end Y49
