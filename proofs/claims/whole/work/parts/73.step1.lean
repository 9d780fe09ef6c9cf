/- Part 73: how payments go back. -/
/-- promise q of channel j ends as w says -/
def cendA (S : CS) (j q : Nat) (w : Int32) : CS := if w = 1 then clearn (cendp S j q (nI (S.2.2.1 (26, j, q) 1))) (S.2.1 (26, j, q) 0) ((1 : Int32) <<< (nI (S.2.2.1 (26, j, q) 0) &&& 31)) else cendp S j q (nI (S.2.2.1 (26, j, q) 0))
theorem cendp_g26 (S : CS) (j k i : Nat) (rc : Int32) : (cendp S j k rc).2.1 (26, j, i) = S.2.1 (26, j, i) := by
  unfold cendp
  rw [cfI_g]
  unfold cst
  rw [cfN_g, cfI_g, cfI_g]
theorem cendA_z (S : CS) (j q : Nat) (w : Int32) : (cendA S j q w).2.2.2 = S.2.2.2 := by
  unfold cendA
  split
  · rw [clearn_z]; rfl
  · rfl
/-- a payment's own object isn't touched by a promise's end -/
theorem cendA_27 (S : CS) (j q p : Nat) (w : Int32) : (cendA S j q w).1 (27, p, 0) = S.1 (27, p, 0) ∧ (cendA S j q w).2.1 (27, p, 0) = S.2.1 (27, p, 0) ∧ (cendA S j q w).2.2.1 (27, p, 0) = S.2.2.1 (27, p, 0) := by
  unfold cendA clearn
  split
  · split <;> exact ⟨rfl, rfl, rfl⟩
  · exact ⟨rfl, rfl, rfl⟩
section X73
variable {D : va_G} {N0 : Nat} {d dc : Nat} {h : XH} {E : RO → Nat} {S : CS} {K : Nat → Option XC}
theorem Rep.endA (R : Rep E dc S K h) (hd : cdis S) {j q : Nat} (hj : j < S.2.2.2 (9, 0, 0) 0) (hq : q < S.2.2.2 (24, j, 0) 0) (hl : S.2.2.1 (21, j, 0) 5 < 63) (w : Int32) (hk : w = 1 → chas S (S.2.1 (26, j, q) 0) = true) : ∃ u, xV D N0 mN_endAs (d + 2) 0 (xargs 4 [.ref (E (0, 0, 0)), .ref (E (21, j, 0)), .ref (E (26, j, q)), .int w]) [] h (xEq (.returned none) u) ∧ Rep E dc (cendA S j q w) K u ∧ xSz h u := by
  by_cases hw : w = 1
  · obtain ⟨u, e1, e2, e3⟩ := R.endp (D := D) (N0 := N0) (d := d) hj hq hl (nI (S.2.2.1 (26, j, q) 1))
    obtain ⟨r1, r2⟩ := e2.learn (S.2.1 (26, j, q) 0) ((1 : Int32) <<< (nI (S.2.2.1 (26, j, q) 0) &&& 31))
    refine ⟨_, ?_, by unfold cendA; rw [if_pos hw]; exact r1, e3.trans r2⟩
    refine xV.step rfl ?_
    refine xV.step rfl ?_
    refine xV.br rfl (fun h1 => ?_) (fun h1 => absurd hw h1)
    refine xV.step rfl ?_
    refine xV.step rfl ?_
    refine xV.step rfl ?_
    refine xV.get xcl_ok rfl (R.prom hj hq) rfl ?_
    refine xV.cV rfl rfl (R.chan hj) rfl g_mN_endAs_140 mC_endPromise_ok (Nat.le_of_ble_eq_true rfl) (Nat.le_of_ble_eq_true rfl) e1 ?_
    have hp := e2.prom hj hq
    rw [cendp_w26, cendp_g26] at hp
    refine xV.step rfl ?_
    refine xV.get xcl_ok rfl e2.net rfl ?_
    refine xV.step rfl ?_
    refine xV.get xcl_ok rfl hp rfl ?_
    refine xV.step rfl ?_
    refine xV.step rfl ?_
    refine xV.get xcl_ok rfl hp rfl ?_
    refine xV.step rfl ?_
    refine xV.cV rfl rfl e2.secr rfl g_mN_endAs_77 mS_learn_ok (Nat.le_of_ble_eq_true rfl) (Nat.le_of_ble_eq_true rfl) (e2.cLearn (show cdis S from hd) (show chas S (S.2.1 (26, j, q) 0) = true from hk hw)) ?_
    refine xV.step rfl ?_
    exact xV.vret rfl rfl ⟨rfl, rfl⟩
  · obtain ⟨u, e1, e2, e3⟩ := R.endp (D := D) (N0 := N0) (d := d) hj hq hl (nI (S.2.2.1 (26, j, q) 0))
    refine ⟨u, ?_, by unfold cendA; rw [if_neg hw]; exact e2, e3⟩
    refine xV.step rfl ?_
    refine xV.step rfl ?_
    refine xV.br rfl (fun h1 => absurd h1 hw) (fun h1 => ?_)
    refine xV.step rfl ?_
    refine xV.step rfl ?_
    refine xV.step rfl ?_
    refine xV.get xcl_ok rfl (R.prom hj hq) rfl ?_
    refine xV.cV rfl rfl (R.chan hj) rfl g_mN_endAs_140 mC_endPromise_ok (Nat.le_of_ble_eq_true rfl) (Nat.le_of_ble_eq_true rfl) e1 ?_
    exact xV.vret rfl rfl ⟨rfl, rfl⟩
/-- may the payment's promise end? -/
def cecan (S : CS) (p j q : Nat) : Bool := ecan (S.1 (21, j, 0) 6) (nI (S.2.2.1 (21, j, 0) 5)) (S.1 (26, j, q) 5) (S.1 (26, j, q) 6) (S.1 (26, j, q) 4) (S.1 (0, 0, 0) 0) (S.1 (27, p, 0) 9)
/-- the payment goes one channel back: en is how many have ended -/
def cgb (S : CS) (T : CS) (p i : Nat) (en : Int32) : CS := cset T (27, p, 0) (upd (upd (S.1 (27, p, 0)) 12 en) 8 (if i = 0 then 3 else S.1 (27, p, 0) 8)) (S.2.1 (27, p, 0)) (fun k => if k = 11 then i else S.2.2.1 (27, p, 0) k)
def cback (S : CS) (p i j q : Nat) : CS := if cecan S p j q = true then cgb S (cendA S j q (S.1 (27, p, 0) 9)) p i (S.1 (27, p, 0) 12 + 1) else cgb S S p i (S.1 (27, p, 0) 12)
def eBack (S : CS) (p j q : Nat) : Option Nat := if cecan S p j q = true ∧ ¬ nI (S.2.2.1 (21, j, 0) 5) < 63 then some 10 else none
theorem c_N_stepBack (R : Rep E dc S K h) (hr : xrm h) (hO : cOK S) (hd : cdis S) (hC : S.2.2.2 (9, 0, 0) 0 ≤ 8) {p i j q : Nat} (hp : p < S.2.2.2 (10, 0, 0) 0) (hi : S.2.2.1 (27, p, 0) 11 = i + 1) (hl : i < S.2.2.2 (27, p, 0) 0) (hl5 : S.2.2.2 (27, p, 0) 0 ≤ 5) (hj : S.1 (28, p, 0) i = nI j ∧ j < S.2.2.2 (9, 0, 0) 0) (hq : S.1 (32, p, 0) i = nI q ∧ q < S.2.2.2 (24, j, 0) 0) (hk : S.1 (27, p, 0) 9 = 1 → chas S (S.2.1 (26, j, q) 0) = true) :
    xV D N0 mN_stepBack (d + 8) 0 (xargs 5 [.ref (E (0, 0, 0)), .ref (E (27, p, 0))]) [] h (xEd (eBack S p j q) h (fun o u => o = .returned none ∧ Rep E dc (cback S p i j q) K u ∧ xSz h u)) := by
  have hpy := R.paym hp
  rw [hi] at hpy
  obtain ⟨hj1, hj2⟩ := hj
  obtain ⟨hq1, hq2⟩ := hq
  have hch := hO.1 j hj2
  have inj : ∀ {x C : Nat}, x < C → C ≤ 64 → inr0 (nI x) C = true := fun {x C} hx hC => decide_eq_true ⟨by
    have := xn_nonneg (j := x) (by omega)
    simp only [Int32.lt_iff_toInt_lt, Int32.le_iff_toInt_le] at *
    omega, (xn_lt (by omega) (by omega)).mpr hx⟩
  refine xV.step rfl ?_
  refine xV.get xcl_ok rfl hpy rfl ?_
  refine xV.step rfl ?_
  refine xV.step rfl ?_
  rw [xn_pred]
  refine xV.step rfl ?_
  show xV D N0 mN_stepBack (d + 8) 7 [some (.ref (E (0, 0, 0))), some (.ref (E (27, p, 0))), some (.int (nI i)), none, none] [] h _
  refine xV.step rfl ?_
  refine xV.step rfl ?_
  refine xV.get xcl_ok rfl hpy rfl ?_
  refine xV.step rfl ?_
  refine xV.ii (j := i) rfl (R.paym1 hp) rfl hl (by omega) ?_
  rw [hj1]
  refine xV.gV rfl rfl R.net rfl g_mN_stepBack_98 mN_channelAt_ok (Nat.le_of_ble_eq_true rfl) (Nat.le_of_ble_eq_true rfl) rfl (R.chW hr (j := j) (fun _ => ⟨rfl, hj2⟩)) (fun z => absurd (inj hj2 (by omega)) (by unfold cAt at z; rw [z]; decide)) (fun _ => ?_)
  refine xV.step rfl ?_
  show xV D N0 mN_stepBack (d + 8) 18 [some (.ref (E (0, 0, 0))), some (.ref (E (27, p, 0))), some (.int (nI i)), some (.ref (E (21, j, 0))), none] [] h _
  refine xV.step rfl ?_
  refine xV.step rfl ?_
  refine xV.get xcl_ok rfl hpy rfl ?_
  refine xV.step rfl ?_
  refine xV.ii (j := i) rfl (R.paym5 hp) rfl hl (by omega) ?_
  rw [hq1]
  refine xV.gS rfl rfl g_mN_stepBack_189 mN_promiseOf_ok (Nat.le_of_ble_eq_true rfl) (Nat.le_of_ble_eq_true rfl) rfl (c_N_promiseOf (q := fun i => E (26, j, i)) (j := q) (R.chan hj2) (R.lK hj2) (fun _ => ⟨rfl, hq2⟩) (fun _ => ⟨_, R.prom hj2 hq2⟩) hr) (fun z => absurd (inj hq2 hch.2.2.2) (by rw [z]; decide)) (fun _ => ?_)
  refine xV.step rfl ?_
  show xV D N0 mN_stepBack (d + 8) 30 [some (.ref (E (0, 0, 0))), some (.ref (E (27, p, 0))), some (.int (nI i)), some (.ref (E (21, j, 0))), some (.ref (E (26, j, q)))] [] h _
  -- the last step: one channel back
  have fin : ∀ (T : CS) (u : XH) (en : Int32), Rep E dc T K u → T.2.2.2 = S.2.2.2 → xSz h u → xget u (E (27, p, 0)) = some (.inr (6, pyF (nI (S.2.2.1 (27, p, 0) 0)) (S.2.1 (27, p, 0) 0) (nI (S.2.2.2 (27, p, 0) 0)) (E (28, p, 0)) (E (29, p, 0)) (E (30, p, 0)) (E (31, p, 0)) (E (32, p, 0)) (S.1 (27, p, 0) 8) (S.1 (27, p, 0) 9) (nI (S.2.2.1 (27, p, 0) 10)) (nI (i + 1)) en)) → eBack S p j q = none → cback S p i j q = cgb S T p i en →
      xV D N0 mN_stepBack (d + 8) 72 [some (.ref (E (0, 0, 0))), some (.ref (E (27, p, 0))), some (.int (nI i)), some (.ref (E (21, j, 0))), some (.ref (E (26, j, q)))] [] u (xEd (eBack S p j q) h (fun o u => o = .returned none ∧ Rep E dc (cback S p i j q) K u ∧ xSz h u)) := by
    intro T u en RT hz hsz hu he hcb
    refine xV.step rfl ?_
    refine xV.cV rfl rfl hu rfl g_mN_stepBack_358 mY_goneBack_ok (Nat.le_of_ble_eq_true rfl) (Nat.le_of_ble_eq_true rfl) (c_Y_goneBack hu) ?_
    rw [xn_pred]
    refine xV.vret rfl rfl (xEd_none he ⟨rfl, ?_, hsz⟩)
    rw [hcb]
    have q1 := RT.put (r := (27, p, 0)) (by rw [hz]; exact ⟨hp, rfl⟩) (upd (upd (S.1 (27, p, 0)) 12 en) 8 (if i = 0 then 3 else S.1 (27, p, 0) 8)) (S.2.1 (27, p, 0)) (fun k => if k = 11 then i else S.2.2.1 (27, p, 0) k)
    rw [hz] at q1
    have e0 : (if nI i = 0 then (3 : Int32) else S.1 (27, p, 0) 8) = if i = 0 then 3 else S.1 (27, p, 0) 8 := by
      by_cases i0 : i = 0
      · rw [if_pos i0, i0]
        rfl
      · rw [if_neg i0, if_neg (show ¬ nI i = 0 from fun z => i0 ((xn_inj (by omega) (by omega)).mp (show nI i = nI 0 from z)))]
    rw [e0]
    exact q1
  refine xV.step rfl ?_
  refine xV.step rfl ?_
  refine xV.step rfl ?_
  refine xV.step rfl ?_
  refine xV.get xcl_ok rfl hpy rfl ?_
  refine xV.cV rfl rfl R.net rfl g_mN_stepBack_351 mN_canEnd_ok (Nat.le_of_ble_eq_true rfl) (Nat.le_of_ble_eq_true rfl) (c_N_canEnd R.net (R.chan hj2) (R.prom hj2 hq2)) ?_
  refine xV.br rfl (fun h1 => ?_) (fun h1 => ?_)
  · have hno : cecan S p j q = false := xB_f h1
    exact fin S h _ R rfl ⟨rfl, rfl, rfl⟩ hpy (by unfold eBack; rw [if_neg (fun z => by rw [hno] at z; cases z.1)]) (by unfold cback; rw [if_neg (by rw [hno]; decide)])
  have hyes : cecan S p j q = true := xB_t h1
  refine xV.step rfl ?_
  refine xV.cV rfl rfl (R.chan hj2) rfl g_mN_stepBack_113 mC_hasRoomForState_ok (Nat.le_of_ble_eq_true rfl) (Nat.le_of_ble_eq_true rfl) (c_C_hasRoomForState (R.chan hj2)) ?_
  refine xV.ckS rfl g_mN_stepBack_74 (Nat.le_of_ble_eq_true rfl) rfl hr (fun t => xEd_some (by unfold eBack; rw [if_pos ⟨hyes, of_decide_eq_false t⟩])) (fun t => ?_)
  have t2 := of_decide_eq_true t
  have hl63 : S.2.2.1 (21, j, 0) 5 < 63 := by
    have := hch.2.2.1
    rw [show (63 : Int32) = nI 63 from rfl, xn_lt (by omega) (by omega)] at t2
    exact t2
  refine xV.step rfl ?_
  refine xV.step rfl ?_
  refine xV.step rfl ?_
  refine xV.step rfl ?_
  refine xV.get xcl_ok rfl hpy rfl ?_
  obtain ⟨u, e1, e2, e3⟩ := R.endA (D := D) (N0 := N0) (d := d + 5) hd hj2 hq2 hl63 (S.1 (27, p, 0) 9) hk
  refine xV.cV rfl rfl R.net rfl g_mN_stepBack_355 mN_endAs_ok (Nat.le_of_ble_eq_true rfl) (Nat.le_of_ble_eq_true rfl) e1 ?_
  have hz := cendA_z S j q (S.1 (27, p, 0) 9)
  have hpu := e2.paym (p := p) (by rw [hz]; exact hp)
  obtain ⟨f1, f2, f3⟩ := cendA_27 S j q p (S.1 (27, p, 0) 9)
  rw [f1, f2, f3, hz, hi] at hpu
  refine xV.step rfl ?_
  refine xV.step rfl ?_
  refine xV.get xcl_ok rfl hpu rfl ?_
  refine xV.step rfl ?_
  refine xV.step rfl ?_
  refine xV.put xcl_ok rfl hpu rfl rfl rfl (Nat.le_of_ble_eq_true rfl) ?_
  have R3 := e2.put (r := (27, p, 0)) (by rw [hz]; exact ⟨hp, rfl⟩) (upd (S.1 (27, p, 0)) 12 (S.1 (27, p, 0) 12 + 1)) (S.2.1 (27, p, 0)) (S.2.2.1 (27, p, 0))
  rw [hz] at R3
  have e9 : kcell E dc S.2.2.2 (27, p, 0) (upd (S.1 (27, p, 0)) 12 (S.1 (27, p, 0) 12 + 1)) (S.2.1 (27, p, 0)) (S.2.2.1 (27, p, 0)) = .inr (6, pyF (nI (S.2.2.1 (27, p, 0) 0)) (S.2.1 (27, p, 0) 0) (nI (S.2.2.2 (27, p, 0) 0)) (E (28, p, 0)) (E (29, p, 0)) (E (30, p, 0)) (E (31, p, 0)) (E (32, p, 0)) (S.1 (27, p, 0) 8) (S.1 (27, p, 0) 9) (nI (S.2.2.1 (27, p, 0) 10)) (nI (i + 1)) (S.1 (27, p, 0) 12 + 1)) := by rw [← hi]; rfl
  rw [e9] at R3
  refine fin _ _ (S.1 (27, p, 0) 12 + 1) R3 (by rw [cset_z, hz]) ⟨e3.1, e3.2.1, e3.2.2⟩ xput_get (by unfold eBack; rw [if_neg (fun z => z.2 t2)]) ?_
  unfold cback
  rw [if_pos hyes]
  unfold cgb cset
  refine Prod.ext ?_ (Prod.ext ?_ (Prod.ext ?_ rfl))
  all_goals
    funext q0
    simp only
    by_cases z : q0 = (27, p, 0)
    · rw [if_pos z, if_pos z]
    · first
        | rw [if_neg z, if_neg z, if_neg z]
        | rw [if_neg z, if_neg z]
end X73
