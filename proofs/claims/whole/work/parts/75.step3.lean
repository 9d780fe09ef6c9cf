/- Part 75: step. -/
section W75
variable {D : va_G} {N0 : Nat} {M : XM} {d pc : Nat} {lv : XL} {h : XH} {Q : Outcome → XH → Prop}
/-- a call that does something or throws -/
theorem xV.kEV {M2 : XM} {idx nx n b ci : Nat} {q : vw_C} {c : Option Nat} {fs as rest st : List Value} {Q0 : Outcome → XH → Prop} (hq : xon M pc = some (.invokevirtual idx, nx)) (hst : xsp (n + 1) st [] = some (.ref b :: as, rest)) (hb : xget h b = some (.inr (ci, fs))) (hc : xcl[ci]? = some q) (hw : xcv q.1 M M2 idx n) (hok2 : xOK M2 = true) (hsz : (lg_sl (.ref b :: as)).length ≤ M2.2.2.1) (hcat : (rest.map fun v => v.category).sum + (M2.2.2.1 + 11) ≤ 64)
    (hout : (tableOf M.2.2.2.2.1).all (fun x => !covers x pc) = true) (hcon : xV D N0 M2 d 0 (xargs M2.2.2.1 (.ref b :: as)) [] h (xEd c h Q0)) (h0 : ∀ o u, Q0 o u → o = .returned none) (k2 : ∀ ci, c = some ci → Q (.threw h.1) (xnew h (.inr (ci, [])) 6)) (k1 : c = none → ∀ u, Q0 (.returned none) u → xV D N0 M (d + 1) nx lv rest u Q) : xV D N0 M (d + 1) pc lv st h Q :=
  xV.callV hq hst hb hc hw hok2 hsz hcat hcon (fun w u hz => by
    cases hc2 : c with
    | none =>
      rw [hc2] at hz
      have e := h0 _ _ hz
      cases e
      exact k1 hc2 u hz
    | some ci => rw [hc2] at hz; cases hz.1) (fun a u hz => by
    cases hc2 : c with
    | none =>
      rw [hc2] at hz
      have e := h0 _ _ hz
      cases e
    | some ci => rw [hc2] at hz; obtain ⟨e, rfl⟩ := hz; cases e; exact xT.out hout (k2 ci hc2))
end W75
section X75
variable {D : va_G} {N0 : Nat} {d : Nat} {h : XH} {E : RO → Nat} {S : CS} {K : Nat → Option XC} {Q : Outcome → XH → Prop}
theorem c_N_step_no (R : Rep E (D.1 1000) S K h) (hr : xrm h) {p : Nat} {n : Int32} (hp : pAt S n = true → n = nI p ∧ p < S.2.2.2 (10, 0, 0) 0) (k8 : pAt S n = false → Q (.threw h.1) (xnew h (.inr (8, [])) 6)) (k10 : pAt S n = true → S.1 (27, p, 0) 8 = 3 → Q (.threw h.1) (xnew h (.inr (10, [])) 6))
    (k : pAt S n = true → S.1 (27, p, 0) 8 ≠ 3 → xV D N0 mN_step (d + 9) 22 [some (.ref (E (0, 0, 0))), some (.int n), some (.ref (E (27, p, 0)))] [] h Q) : xV D N0 mN_step (d + 9) 0 (xargs 3 [.ref (E (0, 0, 0)), .int n]) [] h Q := by
  refine xV.step rfl ?_
  refine xV.step rfl ?_
  refine xV.gV rfl rfl R.net rfl g_mN_step_226 mN_paymentAt_ok (Nat.le_of_ble_eq_true rfl) (Nat.le_of_ble_eq_true rfl) rfl (R.pyW hr hp) k8 (fun z => ?_)
  have hp2 := (hp z).2
  refine xV.step rfl ?_
  show xV D N0 mN_step (d + 9) 6 [some (.ref (E (0, 0, 0))), some (.int n), some (.ref (E (27, p, 0)))] [] h _
  have go : ∀ b : Bool, decide (S.1 (27, p, 0) 8 ≠ 3) = b → xV D N0 mN_step (d + 9) 19 [some (.ref (E (0, 0, 0))), some (.int n), some (.ref (E (27, p, 0)))] [.int (xB b)] h Q := by
    intro b hb
    refine xV.ckS rfl g_mN_step_74 (Nat.le_of_ble_eq_true rfl) rfl hr (fun t => k10 z (Decidable.byContradiction (of_decide_eq_false (hb.trans t)))) (fun t => k z (of_decide_eq_true (hb.trans t)))
  refine xV.step rfl ?_
  refine xV.get xcl_ok rfl (R.paym hp2) rfl ?_
  refine xV.step rfl ?_
  refine xV.br rfl (fun h1 => ?_) (fun h1 => ?_)
  · refine xV.step rfl ?_
    exact go false (decide_eq_false (fun t => t h1))
  · refine xV.step rfl ?_
    refine xV.step rfl ?_
    exact go true (decide_eq_true h1)
theorem cback_8 (S : CS) (p i j q : Nat) : (cback S p i j q).1 (27, p, 0) 8 = if i = 0 then 3 else S.1 (27, p, 0) 8 := by
  unfold cback
  split <;> (unfold cgb; rw [cset_f, if_pos rfl]; rfl)
theorem cback_z (S : CS) (p i j q : Nat) : (cback S p i j q).2.2.2 = S.2.2.2 := by
  unfold cback
  split
  · unfold cgb
    rw [cset_z, cendA_z]
  · rfl
/-- step, where the payment goes back -/
theorem c_N_step_back (R : Rep E (D.1 1000) S K h) (hr : xrm h) (hO : cOK S) (hd : cdis S) (hC : S.2.2.2 (9, 0, 0) 0 ≤ 8) {p i j q : Nat} {n : Int32} (hp : p < S.2.2.2 (10, 0, 0) 0) (hst : S.1 (27, p, 0) 8 ≠ 0) (hi : S.2.2.1 (27, p, 0) 11 = i + 1) (hl : i < S.2.2.2 (27, p, 0) 0) (hl5 : S.2.2.2 (27, p, 0) 0 ≤ 5) (hj : S.1 (28, p, 0) i = nI j ∧ j < S.2.2.2 (9, 0, 0) 0) (hq : S.1 (32, p, 0) i = nI q ∧ q < S.2.2.2 (24, j, 0) 0) (hk : S.1 (27, p, 0) 9 = 1 → chas S (S.2.1 (26, j, q) 0) = true) :
    xV D N0 mN_step (d + 9) 22 [some (.ref (E (0, 0, 0))), some (.int n), some (.ref (E (27, p, 0)))] [] h (xEd (eBack S p j q) h (fun o u => o = .returned (some (.int (if i = 0 then 3 else S.1 (27, p, 0) 8))) ∧ Rep E (D.1 1000) (cback S p i j q) K u ∧ xSz h u)) := by
  refine xV.step rfl ?_
  refine xV.get xcl_ok rfl (R.paym hp) rfl ?_
  refine xV.br rfl (fun h1 => absurd h1 hst) (fun h1 => ?_)
  refine xV.step rfl ?_
  refine xV.step rfl ?_
  refine xV.kEV rfl rfl R.net rfl g_mN_step_231 mN_stepBack_ok (Nat.le_of_ble_eq_true rfl) (Nat.le_of_ble_eq_true rfl) rfl (c_N_stepBack R hr hO hd hC hp hi hl hl5 hj hq hk) (fun o u z => z.1) (fun ci z => xEd_some z) (fun z u hz => ?_)
  obtain ⟨-, e2, e3⟩ := hz
  refine xV.step rfl ?_
  refine xV.step rfl ?_
  refine xV.get xcl_ok rfl (e2.paym (p := p) (by rw [cback_z]; exact hp)) rfl ?_
  rw [cback_8]
  exact xV.iret rfl rfl rfl (xEd_none z ⟨rfl, e2, e3⟩)
/-- step, where the payment goes on -/
theorem c_N_step_fwd (R : Rep E (D.1 1000) S K h) (hr : h.2.1 + 2 ≤ xCmax ∧ h.2.2.1 + 81 ≤ xSmax) (hO : cOK S) (hC : S.2.2.2 (9, 0, 0) 0 ≤ 8) {p i j v : Nat} {n : Int32} (hp : p < S.2.2.2 (10, 0, 0) 0) (hst : S.1 (27, p, 0) 8 = 0) (hi : S.2.2.1 (27, p, 0) 10 = i) (hl : i < S.2.2.2 (27, p, 0) 0) (hl5 : S.2.2.2 (27, p, 0) 0 ≤ 5) (hj : S.1 (28, p, 0) i = nI j ∧ j < S.2.2.2 (9, 0, 0) 0) (hv : S.1 (29, p, 0) i = nI v) (hnp : S.2.2.2 (24, j, 0) 0 ≤ S.2.2.1 (21, j, 0) 5) :
    xV D N0 mN_step (d + 9) 22 [some (.ref (E (0, 0, 0))), some (.int n), some (.ref (E (27, p, 0)))] [] h (xEd (eFwd S p i j) h (fun o u => ∃ (E' : RO → Nat) (S' : CS), o = .returned (some (.int (S'.1 (27, p, 0) 8))) ∧ E' (0, 0, 0) = E (0, 0, 0) ∧ Rep E' (D.1 1000) S' K u ∧ xMk h u 2 81 ∧ ((cfok S p i j = false ∧ S' = cturn S p 2) ∨ (cfok S p i j = true ∧ ∃ c mo, S' = cfw1 S p i j v c mo)))) := by
  refine xV.step rfl ?_
  refine xV.get xcl_ok rfl (R.paym hp) rfl ?_
  refine xV.br rfl (fun h1 => ?_) (fun h1 => absurd hst h1)
  refine xV.step rfl ?_
  refine xV.get xcl_ok rfl (R.paym hp) rfl ?_
  refine xV.step rfl ?_
  refine xV.get xcl_ok rfl (R.paym hp) rfl ?_
  refine xV.br rfl (fun h2 => ?_) (fun h2 => ?_)
  · rw [hi, xn_le (by omega) (by omega)] at h2
    omega
  refine xV.step rfl ?_
  refine xV.step rfl ?_
  refine xV.kEV rfl rfl R.net rfl g_mN_step_239 mN_stepForward_ok (Nat.le_of_ble_eq_true rfl) (Nat.le_of_ble_eq_true rfl) rfl (c_N_stepForward R hr hO hC hp hi hl hl5 hj hv hnp) (fun o u z => z.1) (fun ci z => xEd_some z) (fun z u hz => ?_)
  obtain ⟨-, E', S', e1, e2, e3, e4, e5, e6⟩ := hz
  have hpu := e3.paym (p := p) (by rw [e5]; exact hp)
  rw [e2] at hpu
  refine xV.step rfl ?_
  refine xV.step rfl ?_
  refine xV.get xcl_ok rfl hpu rfl ?_
  exact xV.iret rfl rfl rfl (xEd_none z ⟨E', S', rfl, e1, e3, e4, e6⟩)
/-- step, where the receiver decides -/
theorem c_N_step_turn (R : Rep E (D.1 1000) S K h) (hd : cdis S) {p : Nat} {n : Int32} (hp : p < S.2.2.2 (10, 0, 0) 0) (hst : S.1 (27, p, 0) 8 = 0) (hi : S.2.2.1 (27, p, 0) 10 ≤ 5) (hl : S.2.2.2 (27, p, 0) 0 ≤ S.2.2.1 (27, p, 0) 10) :
    xV D N0 mN_step (d + 9) 22 [some (.ref (E (0, 0, 0))), some (.int n), some (.ref (E (27, p, 0)))] [] h (fun o u => o = .returned (some (.int ((cturn S p (if cknows S (nI (S.2.2.1 (27, p, 0) 0)) (S.2.1 (27, p, 0) 0) = true then 1 else 2)).1 (27, p, 0) 8))) ∧ Rep E (D.1 1000) (cturn S p (if cknows S (nI (S.2.2.1 (27, p, 0) 0)) (S.2.1 (27, p, 0) 0) = true then 1 else 2)) K u ∧ xSz h u) := by
  have fin : ∀ w : Int32, (if cknows S (nI (S.2.2.1 (27, p, 0) 0)) (S.2.1 (27, p, 0) 0) = true then (1 : Int32) else 2) = w → xV D N0 mN_step (d + 9) 80 [some (.ref (E (0, 0, 0))), some (.int n), some (.ref (E (27, p, 0)))] [.int w, .ref (E (27, p, 0))] h (fun o u => o = .returned (some (.int ((cturn S p (if cknows S (nI (S.2.2.1 (27, p, 0) 0)) (S.2.1 (27, p, 0) 0) = true then 1 else 2)).1 (27, p, 0) 8))) ∧ Rep E (D.1 1000) (cturn S p (if cknows S (nI (S.2.2.1 (27, p, 0) 0)) (S.2.1 (27, p, 0) 0) = true then 1 else 2)) K u ∧ xSz h u) := by
    intro w hw
    rw [hw]
    obtain ⟨u, e1, e2, e3⟩ := R.turn (N0 := N0) (d := d + 8) hp hi w
    refine xV.cV rfl rfl (R.paym hp) rfl g_mN_step_246 mY_turnBack_ok (Nat.le_of_ble_eq_true rfl) (Nat.le_of_ble_eq_true rfl) e1 ?_
    refine xV.step rfl ?_
    refine xV.get xcl_ok rfl (e2.paym (p := p) hp) rfl ?_
    exact xV.iret rfl rfl rfl ⟨rfl, e2, e3⟩
  refine xV.step rfl ?_
  refine xV.get xcl_ok rfl (R.paym hp) rfl ?_
  refine xV.br rfl (fun h1 => ?_) (fun h1 => absurd hst h1)
  refine xV.step rfl ?_
  refine xV.get xcl_ok rfl (R.paym hp) rfl ?_
  refine xV.step rfl ?_
  refine xV.get xcl_ok rfl (R.paym hp) rfl ?_
  refine xV.br rfl (fun h2 => ?_) (fun h2 => ?_)
  case refine_2 =>
    rw [xn_le (by omega) (by omega)] at h2
    omega
  refine xV.step rfl ?_
  refine xV.step rfl ?_
  refine xV.get xcl_ok rfl R.net rfl ?_
  refine xV.step rfl ?_
  refine xV.get xcl_ok rfl (R.paym hp) rfl ?_
  refine xV.step rfl ?_
  refine xV.get xcl_ok rfl (R.paym hp) rfl ?_
  refine xV.cV rfl rfl R.secr rfl g_mN_step_81 mS_isKnown_ok (Nat.le_of_ble_eq_true rfl) (Nat.le_of_ble_eq_true rfl) (c_S_isKnown R.secr R.locks R.knowers hd.1 hd.2) ?_
  refine xV.br rfl (fun h3 => ?_) (fun h3 => ?_)
  · refine xV.step rfl ?_
    exact fin 2 (if_neg (by unfold cknows; rw [xB_f h3]; decide))
  · refine xV.step rfl ?_
    refine xV.step rfl ?_
    exact fin 1 (if_pos (xB_t h3))
end X75
