/- Part 48: constructors without lists; fees; whether a promise can end. -/
def neF (co ba pa de wa se ch py la tr : Nat) (hg : Int32) : List Value := [.ref co, .ref ba, .ref pa, .ref de, .ref wa, .ref se, .ref ch, .ref py, .ref la, .ref tr, .int hg]
section X48
variable {D : va_G} {N0 : Nat} {d a : Nat} {h : XH}
theorem c_P_init (ha : xget h a = some (.inr (5, xdf 5))) {p q am dl mi : Int32} {lo : Int64} :
    xV D N0 mP_init (d + 1) 0 (xargs 8 [.ref a, .int p, .int q, .int am, .long lo, .int dl, .int mi]) [] h (xEq (.returned none) (xput h a (.inr (5, prF p q am lo dl mi (-1) false)))) := by
  refine xV.step rfl ?_
  refine xV.obj rfl g_mP_init_3 (Nat.le_of_ble_eq_true rfl) ?_
  refine xV.step rfl ?_
  refine xV.step rfl ?_
  refine xV.put xcl_ok rfl ha rfl rfl rfl (Nat.le_of_ble_eq_true rfl) ?_
  refine xV.step rfl ?_
  refine xV.step rfl ?_
  refine xV.put xcl_ok rfl xput_get rfl rfl rfl (Nat.le_of_ble_eq_true rfl) ?_
  rw [xput_put]
  refine xV.step rfl ?_
  refine xV.step rfl ?_
  refine xV.put xcl_ok rfl xput_get rfl rfl rfl (Nat.le_of_ble_eq_true rfl) ?_
  rw [xput_put]
  refine xV.step rfl ?_
  refine xV.step rfl ?_
  refine xV.put xcl_ok rfl xput_get rfl rfl rfl (Nat.le_of_ble_eq_true rfl) ?_
  rw [xput_put]
  refine xV.step rfl ?_
  refine xV.step rfl ?_
  refine xV.put xcl_ok rfl xput_get rfl rfl rfl (Nat.le_of_ble_eq_true rfl) ?_
  rw [xput_put]
  refine xV.step rfl ?_
  refine xV.step rfl ?_
  refine xV.put xcl_ok rfl xput_get rfl rfl rfl (Nat.le_of_ble_eq_true rfl) ?_
  rw [xput_put]
  refine xV.step rfl ?_
  refine xV.step rfl ?_
  refine xV.put xcl_ok rfl xput_get rfl rfl rfl (Nat.le_of_ble_eq_true rfl) ?_
  rw [xput_put]
  refine xV.step rfl ?_
  refine xV.step rfl ?_
  refine xV.put xcl_ok rfl xput_get rfl rfl rfl (Nat.le_of_ble_eq_true rfl) ?_
  rw [xput_put]
  exact xV.vret rfl rfl ⟨rfl, rfl⟩
theorem xnew_ne {h : XH} {a n : Nat} {c : XC} (hn : a ≠ h.1) : xget (xnew h c n) a = xget h a := by
  show (if a = h.1 then some c else h.2.2.2 a) = h.2.2.2 a
  rw [if_neg hn]
theorem c_N_feeOf {co ba pa de wa se ch py la tr v : Nat} {hg am : Int32} {b q : Nat → Int32} (ha : xget h a = some (.inr (0, neF co ba pa de wa se ch py la tr hg))) (hb : xget h ba = some (.inl (false, .int, 6, .inl b))) (hq : xget h pa = some (.inl (false, .int, 6, .inl q))) (hv : v < 6) :
    xV D N0 mN_feeOf d 0 (xargs 3 [.ref a, .int (nI v), .int am]) [] h (xEq (.returned (some (.int (b v + (am.toInt64 * (q v).toInt64 / 1000000).toInt32)))) h) := by
  refine xV.step rfl ?_
  refine xV.get xcl_ok rfl ha rfl ?_
  refine xV.step rfl ?_
  refine xV.ii (j := v) rfl hb rfl hv (by omega) ?_
  repeat' first
    | refine xV.step rfl ?_
    | refine xV.get xcl_ok rfl ha rfl ?_
  refine xV.ii (j := v) rfl hq rfl hv (by omega) ?_
  repeat' refine xV.step rfl ?_
  refine xV.ldiv rfl (by decide) ?_
  repeat' refine xV.step rfl ?_
  exact xV.iret rfl rfl rfl ⟨rfl, rfl⟩
def ecan (st la mi gi dl hg w : Int32) : Bool := decide (st = 0 ∧ isIn0 mi gi la = true ∧ (w = 2 ∨ hg < dl))
theorem c_N_canEnd {co ba pa de wa se ch py la tr o r b1 b2 pl : Nat} {hg w f s lt st he pu pd pb p q am dl mi gi : Int32} {sd po : Bool} {lo : Int64} (ha : xget h a = some (.inr (0, neF co ba pa de wa se ch py la tr hg))) (hc : xget h o = some (.inr (4, chF f s b1 b2 pl lt st he pu pd pb sd))) (hp : xget h r = some (.inr (5, prF p q am lo dl mi gi po))) :
    xV D N0 mN_canEnd (d + 1) 0 (xargs 4 [.ref a, .ref o, .ref r, .int w]) [] h (xEq (.returned (some (.int (xB (ecan st lt mi gi dl hg w))))) h) := by
  unfold ecan
  refine xV.step rfl ?_
  refine xV.get xcl_ok rfl hc rfl ?_
  refine xV.br rfl (fun h1 => ?_) (fun h1 => ?_)
  case refine_2 =>
    refine xV.step rfl ?_
    exact xV.iret rfl rfl rfl ⟨xB0 (fun z => h1 z.1), rfl⟩
  refine xV.step rfl ?_
  refine xV.step rfl ?_
  refine xV.get xcl_ok rfl hc rfl ?_
  refine xV.cV rfl rfl hp rfl g_mN_canEnd_195 mP_isIn_ok (Nat.le_of_ble_eq_true rfl) (Nat.le_of_ble_eq_true rfl) (c_P_isIn hp) ?_
  refine xV.br rfl (fun h2 => ?_) (fun h2 => ?_)
  · refine xV.step rfl ?_
    exact xV.iret rfl rfl rfl ⟨xB0 (fun z => by rw [xB_f h2] at z; cases z.2.1), rfl⟩
  refine xV.step rfl ?_
  refine xV.step rfl ?_
  refine xV.br rfl (fun h3 => ?_) (fun h3 => ?_)
  · refine xV.step rfl ?_
    refine xV.step rfl ?_
    exact xV.iret rfl rfl rfl ⟨xB1 ⟨h1, xB_t h2, Or.inl h3⟩, rfl⟩
  refine xV.step rfl ?_
  refine xV.get xcl_ok rfl hp rfl ?_
  refine xV.step rfl ?_
  refine xV.get xcl_ok rfl ha rfl ?_
  refine xV.br rfl (fun h4 => ?_) (fun h4 => ?_)
  · refine xV.step rfl ?_
    refine xV.iret rfl rfl rfl ⟨xB0 (fun z => ?_), rfl⟩
    rcases z.2.2 with y | y
    · exact h3 y
    · simp only [Int32.lt_iff_toInt_lt, Int32.le_iff_toInt_le] at *
      omega
  · refine xV.step rfl ?_
    refine xV.step rfl ?_
    refine xV.iret rfl rfl rfl ⟨xB1 ⟨h1, xB_t h2, Or.inr ?_⟩, rfl⟩
    simp only [Int32.lt_iff_toInt_lt, Int32.le_iff_toInt_le] at *
    omega
end X48
