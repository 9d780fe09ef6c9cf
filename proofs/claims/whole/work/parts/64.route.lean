/- Part 64: route. -/
theorem i64_i32 (x : Int32) : x.toInt64.toInt32 = x := by
  rw [← Int32.toInt_inj]
  simp
section X64
variable {D : va_G} {N0 : Nat} {M : XM} {d dc pc : Nat} {lv : XL} {h : XH} {E : RO → Nat} {S : CS} {K : Nat → Option XC} {Q : Outcome → XH → Prop}
/-- a check of several things -/
theorem xV.kE {M2 : XM} {idx nx n : Nat} {c : Option Nat} {as rest st : List Value} (hq : xon M pc = some (.invokestatic idx, nx)) (hst : xsp n st [] = some (as, rest)) (hw : xcs M M2 idx n) (hok2 : xOK M2 = true) (hsz : (lg_sl as).length ≤ M2.2.2.1) (hcat : (rest.map fun v => v.category).sum + (M2.2.2.1 + 11) ≤ 64)
    (hout : (tableOf M.2.2.2.2.1).all (fun x => !covers x pc) = true) (hcon : xV D N0 M2 d 0 (xargs M2.2.2.1 as) [] h (xEd c h (xEq (.returned none) h))) (k2 : ∀ ci, c = some ci → Q (.threw h.1) (xnew h (.inr (ci, [])) 6)) (k1 : c = none → xV D N0 M (d + 1) nx lv rest h Q) : xV D N0 M (d + 1) pc lv st h Q :=
  xV.callS hq hst hw hok2 hsz hcat hcon (fun w u hz => by
    cases hc : c with
    | none => rw [hc] at hz; obtain ⟨e, rfl⟩ := hz; cases e; exact k1 hc
    | some ci => rw [hc] at hz; cases hz.1) (fun a u hz => by
    cases hc : c with
    | none => rw [hc] at hz; cases hz.1
    | some ci => rw [hc] at hz; obtain ⟨e, rfl⟩ := hz; cases e; exact xT.out hout (k2 ci hc))
theorem c_N_route (R : Rep E dc S K h) (hr : xrm h) (hO : srOK S) {fr to am : Int32} : xV D N0 mN_route (d + 18) 0 (xargs 4 [.ref (E (0, 0, 0)), .int fr, .int to, .int am]) [] h (xEd (eEnds fr to am) h (fun o u => o = .returned (some (.int (rAns (cres S fr to am)))) ∧ ∃ S2, cSame S S2 ∧ Rep E dc S2 K u ∧ bestB S2 (cres S fr to am) ∧ xSz h u)) := by
  refine xV.step rfl ?_
  refine xV.step rfl ?_
  refine xV.step rfl ?_
  refine xV.kE rfl rfl g_mN_route_198 mN_checkEnds_ok (Nat.le_of_ble_eq_true rfl) (Nat.le_of_ble_eq_true rfl) rfl (c_N_checkEnds hr) (fun ci z => xEd_some z) (fun z => ?_)
  rw [z]
  refine xV.step rfl ?_
  refine xV.step rfl ?_
  refine xV.step rfl ?_
  refine xV.step rfl ?_
  refine xV.callV (n := 3) rfl rfl R.net rfl g_mN_route_202 mN_findRoute_ok (Nat.le_of_ble_eq_true rfl) (Nat.le_of_ble_eq_true rfl) (c_N_findRoute hO R) (fun w u hz => ?_) (fun a u hz => by cases hz.1)
  obtain ⟨z1, S2, z2, z3, z4, z5⟩ := hz
  cases z1
  have hb := z3.best
  rw [z4.1] at hb
  refine xV.step rfl ?_
  refine xV.get xcl_ok rfl z3.net rfl ?_
  refine xV.get xcl_ok rfl hb rfl ?_
  have z4' := z4
  generalize cres S fr to am = B at *
  cases B with
  | nil =>
    refine xV.br rfl (fun h1 => ?_) (fun h1 => absurd rfl h1)
    refine xV.step rfl ?_
    refine xV.step rfl ?_
    exact xV.iret rfl rfl rfl ⟨rfl, S2, z2, z3, z4', z5⟩
  | cons e B =>
    have hl := z4.2.1
    rw [show (e :: B).length = B.length + 1 from rfl] at hb hl
    refine xV.br rfl (fun h1 => ?_) (fun h1 => ?_)
    · rw [show (0 : Int32) = nI 0 from rfl, show (e :: B).length = B.length + 1 from rfl, xn_inj (by omega) (by omega)] at h1
      omega
    refine xV.step rfl ?_
    refine xV.get xcl_ok rfl z3.net rfl ?_
    refine xV.cV rfl rfl hb rfl g_mN_route_208 mR_firstAmount_ok (Nat.le_of_ble_eq_true rfl) (Nat.le_of_ble_eq_true rfl) (c_R_firstAmount hb z3.best3 (by omega)) ?_
    refine xV.iret rfl rfl rfl ⟨?_, S2, z2, z3, z4', z5⟩
    have q := z4.2.2.2.2.2.1
    show Outcome.returned (some (.int (S2.1 (14, 0, 0) B.length))) = .returned (some (.int e.2.2.toInt32))
    rw [← q, i64_i32]
end X64
