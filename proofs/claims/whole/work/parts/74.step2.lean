/- Part 74: how payments go on; step. -/
/-- a payment turns back as w -/
def cturn (S : CS) (p : Nat) (w : Int32) : CS := cset S (27, p, 0) (upd (upd (S.1 (27, p, 0)) 9 w) 8 (if S.2.2.1 (27, p, 0) 10 = 0 then 3 else w)) (S.2.1 (27, p, 0)) (fun k => if k = 11 then S.2.2.1 (27, p, 0) 10 else S.2.2.1 (27, p, 0) k)
/-- a payment's next promise is made -/
def cfw1 (S : CS) (p i j v c : Nat) (mo : Int32) : CS := cfN (cfI (czl (cprm S j (S.2.2.2 (24, j, 0) 0) v (cpart S j v) (S.1 (30, p, 0) i) (S.2.1 (27, p, 0) 0) (S.1 (31, p, 0) i)) (24, j, 0) (S.2.2.2 (24, j, 0) 0 + 1) c mo) (32, p, 0) i (nI (S.2.2.2 (24, j, 0) 0))) (27, p, 0) 10 (i + 1)
def cfok (S : CS) (p i j : Nat) : Bool := ccarC S j (S.1 (29, p, 0) i) (S.1 (30, p, 0) i) && decide (S.1 (0, 0, 0) 0 < S.1 (31, p, 0) i)
def eFwd (S : CS) (p i j : Nat) : Option Nat := if cfok S p i j = true ∧ ¬ nI (S.2.2.1 (21, j, 0) 5) < 63 then some 10 else none
section X74
variable {D : va_G} {N0 : Nat} {d : Nat} {h : XH} {E : RO → Nat} {S : CS} {K : Nat → Option XC}
theorem Rep.turn (R : Rep E (D.1 1000) S K h) {p : Nat} (hp : p < S.2.2.2 (10, 0, 0) 0) (hm : S.2.2.1 (27, p, 0) 10 ≤ 5) (w : Int32) : ∃ u, xV D N0 mY_turnBack d 0 (xargs 2 [.ref (E (27, p, 0)), .int w]) [] h (xEq (.returned none) u) ∧ Rep E (D.1 1000) (cturn S p w) K u ∧ xSz h u := by
  refine ⟨_, c_Y_turnBack (R.paym hp), ?_, rfl, rfl, rfl⟩
  have q1 := R.put (r := (27, p, 0)) ⟨hp, rfl⟩ (upd (upd (S.1 (27, p, 0)) 9 w) 8 (if S.2.2.1 (27, p, 0) 10 = 0 then 3 else w)) (S.2.1 (27, p, 0)) (fun k => if k = 11 then S.2.2.1 (27, p, 0) 10 else S.2.2.1 (27, p, 0) k)
  have e0 : (if nI (S.2.2.1 (27, p, 0) 10) = 0 then (3 : Int32) else w) = if S.2.2.1 (27, p, 0) 10 = 0 then 3 else w := by
    by_cases i0 : S.2.2.1 (27, p, 0) 10 = 0
    · rw [if_pos i0, i0]
      rfl
    · rw [if_neg i0, if_neg (show ¬ nI (S.2.2.1 (27, p, 0) 10) = 0 from fun z => i0 ((xn_inj (by omega) (by omega)).mp (show nI (S.2.2.1 (27, p, 0) 10) = nI 0 from z)))]
  rw [e0]
  exact q1
def fwEnd (D : va_G) (E : RO → Nat) (S : CS) (K : Nat → Option XC) (h : XH) (p i j v : Nat) : Outcome → XH → Prop := fun o u => o = .returned none ∧ ∃ (E' : RO → Nat) (S' : CS), E' (0, 0, 0) = E (0, 0, 0) ∧ E' (27, p, 0) = E (27, p, 0) ∧ Rep E' (D.1 1000) S' K u ∧ xMk h u 2 81 ∧ S'.2.2.2 (10, 0, 0) = S.2.2.2 (10, 0, 0) ∧ ((cfok S p i j = false ∧ S' = cturn S p 2) ∨ (cfok S p i j = true ∧ ∃ c mo, S' = cfw1 S p i j v c mo))
theorem c_N_stepForward (R : Rep E (D.1 1000) S K h) (hr : h.2.1 + 2 ≤ xCmax ∧ h.2.2.1 + 81 ≤ xSmax) (hO : cOK S) (hC : S.2.2.2 (9, 0, 0) 0 ≤ 8) {p i j v : Nat} (hp : p < S.2.2.2 (10, 0, 0) 0) (hi : S.2.2.1 (27, p, 0) 10 = i) (hl : i < S.2.2.2 (27, p, 0) 0) (hl5 : S.2.2.2 (27, p, 0) 0 ≤ 5) (hj : S.1 (28, p, 0) i = nI j ∧ j < S.2.2.2 (9, 0, 0) 0) (hv : S.1 (29, p, 0) i = nI v) (hnp : S.2.2.2 (24, j, 0) 0 ≤ S.2.2.1 (21, j, 0) 5) :
    xV D N0 mN_stepForward (d + 8) 0 (xargs 6 [.ref (E (0, 0, 0)), .ref (E (27, p, 0))]) [] h (xEd (eFwd S p i j) h (fwEnd D E S K h p i j v)) := by
  have hr0 : xrm h := ⟨by have := hr.1; omega, by have := hr.2; omega⟩
  have hpy := R.paym hp
  subst hi
  obtain ⟨hj1, hj2⟩ := hj
  have hch := hO.1 j hj2
  have inj : inr0 (nI j) (S.2.2.2 (9, 0, 0) 0) = true := decide_eq_true ⟨by
    have := xn_nonneg (j := j) (by omega)
    simp only [Int32.lt_iff_toInt_lt, Int32.le_iff_toInt_le] at *
    omega, (xn_lt (by omega) (by omega)).mpr hj2⟩
  refine xV.step rfl ?_
  refine xV.get xcl_ok rfl hpy rfl ?_
  refine xV.step rfl ?_
  show xV D N0 mN_stepForward (d + 8) 5 [some (.ref (E (0, 0, 0))), some (.ref (E (27, p, 0))), some (.int (nI (S.2.2.1 (27, p, 0) 10))), none, none, none] [] h _
  refine xV.step rfl ?_
  refine xV.step rfl ?_
  refine xV.get xcl_ok rfl hpy rfl ?_
  refine xV.step rfl ?_
  refine xV.ii (j := S.2.2.1 (27, p, 0) 10) rfl (R.paym1 hp) rfl hl (by omega) ?_
  rw [hj1]
  refine xV.gV rfl rfl R.net rfl g_mN_stepForward_98 mN_channelAt_ok (Nat.le_of_ble_eq_true rfl) (Nat.le_of_ble_eq_true rfl) rfl (R.chW hr0 (j := j) (fun _ => ⟨rfl, hj2⟩)) (fun z => absurd inj (by unfold cAt at z; rw [z]; decide)) (fun _ => ?_)
  refine xV.step rfl ?_
  show xV D N0 mN_stepForward (d + 8) 16 [some (.ref (E (0, 0, 0))), some (.ref (E (27, p, 0))), some (.int (nI (S.2.2.1 (27, p, 0) 10))), some (.ref (E (21, j, 0))), none, none] [] h _
  refine xV.step rfl ?_
  refine xV.get xcl_ok rfl hpy rfl ?_
  refine xV.step rfl ?_
  refine xV.ii (j := S.2.2.1 (27, p, 0) 10) rfl (R.paym2 hp) rfl hl (by omega) ?_
  refine xV.step rfl ?_
  show xV D N0 mN_stepForward (d + 8) 24 [some (.ref (E (0, 0, 0))), some (.ref (E (27, p, 0))), some (.int (nI (S.2.2.1 (27, p, 0) 10))), some (.ref (E (21, j, 0))), some (.int (S.1 (29, p, 0) (S.2.2.1 (27, p, 0) 10))), none] [] h _
  refine xV.step rfl ?_
  refine xV.get xcl_ok rfl hpy rfl ?_
  refine xV.step rfl ?_
  refine xV.ii (j := S.2.2.1 (27, p, 0) 10) rfl (R.paym3 hp) rfl hl (by omega) ?_
  refine xV.step rfl ?_
  show xV D N0 mN_stepForward (d + 8) 32 [some (.ref (E (0, 0, 0))), some (.ref (E (27, p, 0))), some (.int (nI (S.2.2.1 (27, p, 0) 10))), some (.ref (E (21, j, 0))), some (.int (S.1 (29, p, 0) (S.2.2.1 (27, p, 0) 10))), some (.int (S.1 (30, p, 0) (S.2.2.1 (27, p, 0) 10)))] [] h _
  have trn : cfok S p (S.2.2.1 (27, p, 0) 10) j = false → xV D N0 mN_stepForward (d + 8) 56 [some (.ref (E (0, 0, 0))), some (.ref (E (27, p, 0))), some (.int (nI (S.2.2.1 (27, p, 0) 10))), some (.ref (E (21, j, 0))), some (.int (S.1 (29, p, 0) (S.2.2.1 (27, p, 0) 10))), some (.int (S.1 (30, p, 0) (S.2.2.1 (27, p, 0) 10)))] [] h (xEd (eFwd S p (S.2.2.1 (27, p, 0) 10) j) h (fwEnd D E S K h p (S.2.2.1 (27, p, 0) 10) j v)) := by
    intro hno
    obtain ⟨u, e1, e2, e3⟩ := R.turn (N0 := N0) (d := d + 7) hp (by omega) 2
    refine xV.step rfl ?_
    refine xV.step rfl ?_
    refine xV.cV rfl rfl hpy rfl g_mN_stepForward_246 mY_turnBack_ok (Nat.le_of_ble_eq_true rfl) (Nat.le_of_ble_eq_true rfl) e1 ?_
    exact xV.vret rfl rfl (xEd_none (by unfold eFwd; rw [if_neg (fun z => by rw [hno] at z; cases z.1)]) ⟨rfl, E, _, rfl, rfl, e2, ⟨by have := e3.2.1; omega, by have := e3.2.2; omega⟩, rfl, Or.inl ⟨hno, rfl⟩⟩)
  refine xV.step rfl ?_
  refine xV.step rfl ?_
  refine xV.step rfl ?_
  refine xV.cV rfl rfl (R.chan hj2) rfl g_mN_stepForward_109 mC_canCarry_ok (Nat.le_of_ble_eq_true rfl) (Nat.le_of_ble_eq_true rfl) (c_C_canCarry (R.chan hj2) (R.chan1 hj2) (R.chan2 hj2) hch.2.2.1 (R.lK hj2) hch.2.2.2 (R.aP hj2)) ?_
  refine xV.br rfl (fun h1 => ?_) (fun h1 => ?_)
  · exact trn (by unfold cfok ccarC; rw [xB_f h1]; rfl)
  refine xV.step rfl ?_
  refine xV.get xcl_ok rfl hpy rfl ?_
  refine xV.step rfl ?_
  refine xV.ii (j := S.2.2.1 (27, p, 0) 10) rfl (R.paym4 hp) rfl hl (by omega) ?_
  refine xV.step rfl ?_
  refine xV.get xcl_ok rfl R.net rfl ?_
  refine xV.br rfl (fun h2 => ?_) (fun h2 => ?_)
  case refine_2 => exact trn (by unfold cfok; rw [decide_eq_false h2, Bool.and_false])
  have hyes : cfok S p (S.2.2.1 (27, p, 0) 10) j = true := by
    unfold cfok ccarC
    rw [xB_t h1, decide_eq_true h2]
    rfl
  refine xV.step rfl ?_
  refine xV.cV rfl rfl (R.chan hj2) rfl g_mN_stepForward_113 mC_hasRoomForState_ok (Nat.le_of_ble_eq_true rfl) (Nat.le_of_ble_eq_true rfl) (c_C_hasRoomForState (R.chan hj2)) ?_
  refine xV.ckS rfl g_mN_stepForward_74 (Nat.le_of_ble_eq_true rfl) rfl hr0 (fun t => xEd_some (by unfold eFwd; rw [if_pos ⟨hyes, of_decide_eq_false t⟩])) (fun t => ?_)
  have t2 := of_decide_eq_true t
  have hl63 : S.2.2.1 (21, j, 0) 5 < 63 := by
    have := hch.2.2.1
    rw [show (63 : Int32) = nI 63 from rfl, xn_lt (by omega) (by omega)] at t2
    exact t2
  rw [show eFwd S p (S.2.2.1 (27, p, 0) 10) j = none from by unfold eFwd; rw [if_neg (fun z => z.2 t2)]]
  refine xV.step rfl ?_
  refine xV.get xcl_ok rfl hpy rfl ?_
  refine xV.step rfl ?_
  refine xV.step rfl ?_
  refine xV.step rfl ?_
  refine xV.step rfl ?_
  refine xV.step rfl ?_
  refine xV.get xcl_ok rfl hpy rfl ?_
  refine xV.step rfl ?_
  refine xV.get xcl_ok rfl hpy rfl ?_
  refine xV.step rfl ?_
  refine xV.ii (j := S.2.2.1 (27, p, 0) 10) rfl (R.paym4 hp) rfl hl (by omega) ?_
  rw [hv]
  refine xV.callV (n := 4) rfl rfl (R.chan hj2) rfl g_mN_stepForward_117 mC_addPromise_ok (Nat.le_of_ble_eq_true rfl) (Nat.le_of_ble_eq_true rfl) (R.addP (p := v) hj2 hl63 (by omega) hr.1 hr.2) (fun w u hz => ?_) (fun a u hz => by cases hz.1)
  obtain ⟨e1, E', c', mo, e2, e3, e4⟩ := hz
  cases e1
  have hp' : p < (czl (cprm S j (S.2.2.2 (24, j, 0) 0) v (cpart S j v) (S.1 (30, p, 0) (S.2.2.1 (27, p, 0) 10)) (S.2.1 (27, p, 0) 0) (S.1 (31, p, 0) (S.2.2.1 (27, p, 0) 10))) (24, j, 0) (S.2.2.2 (24, j, 0) 0 + 1) c' mo).2.2.2 (10, 0, 0) 0 := by
    show p < zset S.2.2.2 (24, j, 0) (S.2.2.2 (24, j, 0) 0 + 1) c' (10, 0, 0) 0
    rw [zset_ne (fun e => by cases e)]
    exact hp
  have ev : ∀ k, 27 ≤ k → k ≤ 32 → E' (k, p, 0) = E (k, p, 0) := fun k k1 k2 => e2 _ ((kV_iff _ _ _ _).mpr (by omega)) (fun e => by have e9 : k = 25 := congrArg (fun q : RO => q.1) e; omega)
  have z27 : (czl (cprm S j (S.2.2.2 (24, j, 0) 0) v (cpart S j v) (S.1 (30, p, 0) (S.2.2.1 (27, p, 0) 10)) (S.2.1 (27, p, 0) 0) (S.1 (31, p, 0) (S.2.2.1 (27, p, 0) 10))) (24, j, 0) (S.2.2.2 (24, j, 0) 0 + 1) c' mo).2.2.2 (27, p, 0) = S.2.2.2 (27, p, 0) := by
    show zset S.2.2.2 (24, j, 0) (S.2.2.2 (24, j, 0) 0 + 1) c' (27, p, 0) = _
    exact zset_ne (fun e => by cases e)
  have h5 := e3.paym5 hp'
  rw [z27, ev 32 (by omega) (by omega)] at h5
  refine xV.is (j := S.2.2.1 (27, p, 0) 10) rfl h5 rfl hl (by omega) ?_
  have R4 := e3.put (r := (32, p, 0)) ⟨hp', rfl⟩ (upd (S.1 (32, p, 0)) (S.2.2.1 (27, p, 0) 10) (nI (S.2.2.2 (24, j, 0) 0))) (S.2.1 (32, p, 0)) (S.2.2.1 (32, p, 0))
  have hE32 : kcell E' (D.1 1000) (czl (cprm S j (S.2.2.2 (24, j, 0) 0) v (cpart S j v) (S.1 (30, p, 0) (S.2.2.1 (27, p, 0) 10)) (S.2.1 (27, p, 0) 0) (S.1 (31, p, 0) (S.2.2.1 (27, p, 0) 10))) (24, j, 0) (S.2.2.2 (24, j, 0) 0 + 1) c' mo).2.2.2 (32, p, 0) (upd (S.1 (32, p, 0)) (S.2.2.1 (27, p, 0) 10) (nI (S.2.2.2 (24, j, 0) 0))) (S.2.1 (32, p, 0)) (S.2.2.1 (32, p, 0)) = .inl (false, .int, S.2.2.2 (27, p, 0) 0, .inl (upd (S.1 (32, p, 0)) (S.2.2.1 (27, p, 0) 10) (nI (S.2.2.2 (24, j, 0) 0)))) := by
    rw [← z27]
    rfl
  rw [hE32, ev 32 (by omega) (by omega)] at R4
  have hp4 := R4.paym (p := p) hp'
  rw [ev 27 (by omega) (by omega)] at hp4
  refine xV.step rfl ?_
  refine xV.step rfl ?_
  refine xV.get xcl_ok rfl hp4 rfl ?_
  refine xV.step rfl ?_
  refine xV.step rfl ?_
  rw [xn_succ]
  refine xV.put xcl_ok rfl hp4 rfl rfl rfl (Nat.le_of_ble_eq_true rfl) ?_
  have R5 := R4.put (r := (27, p, 0)) ⟨hp', rfl⟩ (S.1 (27, p, 0)) (S.2.1 (27, p, 0)) (fun k => if k = 10 then S.2.2.1 (27, p, 0) 10 + 1 else S.2.2.1 (27, p, 0) k)
  refine xV.vret rfl rfl ⟨rfl, E', cfw1 S p (S.2.2.1 (27, p, 0) 10) j v c' mo, e2 _ kV_0 (fun e => by cases e), ev 27 (by omega) (by omega), ?_, e4, ?_, Or.inr ⟨hyes, c', mo, rfl⟩⟩
  · rw [ev 27 (by omega) (by omega)] at R5
    exact R5
  · show zset S.2.2.2 (24, j, 0) (S.2.2.2 (24, j, 0) 0 + 1) c' (10, 0, 0) = _
    exact zset_ne (fun e => by cases e)
end X74
