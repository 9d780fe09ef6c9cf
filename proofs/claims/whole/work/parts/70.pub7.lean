/- Part 70: promise. -/
def ePromC (S : CS) (c n a e : Int32) (j : Nat) : Option Nat := if cAt S c = true ∧ (n = nI (S.2.2.1 (21, j, 0) 0) ∨ n = nI (S.2.2.1 (21, j, 0) 1)) then (if 1 ≤ a then (if (ccarC S j n a = true ∧ S.1 (0, 0, 0) 0 < e) ∧ nI (S.2.2.1 (21, j, 0) 5) < 63 then none else some 10) else some 9) else some 8
section X70
variable {D : va_G} {N0 : Nat} {d : Nat} {E : RO → Nat} {S : CS} {K : Nat → Option XC} {h : XH}
/-- the end of a call that makes a promise -/
def prEnd (D : va_G) (E : RO → Nat) (S : CS) (K : Nat → Option XC) (h : XH) (j p : Nat) (am : Int32) (lo : Int64) (dl : Int32) : Outcome → XH → Prop := fun o u => o = .returned (some (.int (nI (S.2.2.2 (24, j, 0) 0)))) ∧ ∃ (E' : RO → Nat) (c : Nat) (mo : Int32), E' (0, 0, 0) = E (0, 0, 0) ∧ Rep E' (D.1 1000) (czl (cprm S j (S.2.2.2 (24, j, 0) 0) p (cpart S j p) am lo dl) (24, j, 0) (S.2.2.2 (24, j, 0) 0 + 1) c mo) K u ∧ xMk h u 2 81
theorem c_N_promise (R : Rep E (D.1 1000) S K h) (hO : cOK S) (hr : h.2.1 + 2 ≤ xCmax ∧ h.2.2.1 + 81 ≤ xSmax) {j p : Nat} {c n a e : Int32} {lo : Int64} (hc : cAt S c = true → c = nI j ∧ j < S.2.2.2 (9, 0, 0) 0) (hnp : cAt S c = true → S.2.2.2 (24, j, 0) 0 ≤ S.2.2.1 (21, j, 0) 5) (hp : cAt S c = true → (n = nI (S.2.2.1 (21, j, 0) 0) ∨ n = nI (S.2.2.1 (21, j, 0) 1)) → n = nI p) : xV D N0 mN_promise (d + 8) 0 (xargs 8 [.ref (E (0, 0, 0)), .int c, .int n, .int a, .long lo, .int e]) [] h (xEd (ePromC S c n a e j) h (prEnd D E S K h j p a lo e)) := by
  have hr0 : xrm h := ⟨by have := hr.1; omega, by have := hr.2; omega⟩
  refine xV.step rfl ?_
  refine xV.step rfl ?_
  refine xV.gV rfl rfl R.net rfl g_mN_promise_98 mN_channelAt_ok (Nat.le_of_ble_eq_true rfl) (Nat.le_of_ble_eq_true rfl) rfl (R.chW hr0 hc) (fun z => xEd_some (by unfold ePromC; rw [if_neg (fun y => by rw [z] at y; cases y.1)])) (fun z => ?_)
  have hj := (hc z).2
  have hch := hO.1 j hj
  refine xV.step rfl ?_
  show xV D N0 mN_promise (d + 8) 7 [some (.ref (E (0, 0, 0))), some (.int c), some (.int n), some (.int a), some (.long lo), none, some (.int e), some (.ref (E (21, j, 0)))] [] h _
  refine xV.step rfl ?_
  refine xV.step rfl ?_
  refine xV.cV rfl rfl (R.chan hj) rfl g_mN_promise_102 mC_joins_ok (Nat.le_of_ble_eq_true rfl) (Nat.le_of_ble_eq_true rfl) (c_C_joins (R.chan hj)) ?_
  refine xV.ckI rfl g_mN_promise_106 (Nat.le_of_ble_eq_true rfl) rfl hr0 (fun t => xEd_some (by unfold ePromC; rw [if_neg (fun t' => of_decide_eq_false t t'.2)])) (fun t => ?_)
  have t1 := of_decide_eq_true t
  have g2 : 1 ≤ a → ∀ b : Bool, decide (ccarC S j n a = true ∧ S.1 (0, 0, 0) 0 < e) = b → xV D N0 mN_promise (d + 8) 53 [some (.ref (E (0, 0, 0))), some (.int c), some (.int n), some (.int a), some (.long lo), none, some (.int e), some (.ref (E (21, j, 0)))] [.int (xB b)] h (xEd (ePromC S c n a e j) h (prEnd D E S K h j p a lo e)) := by
    intro t2 b hb
    refine xV.ckS rfl g_mN_promise_74 (Nat.le_of_ble_eq_true rfl) rfl hr0 (fun t => xEd_some (by unfold ePromC; rw [if_pos ⟨z, t1⟩, if_pos t2, if_neg (fun t' => of_decide_eq_false (hb.trans t) t'.1)])) (fun t => ?_)
    have t3 := of_decide_eq_true (hb.trans t)
    refine xV.step rfl ?_
    refine xV.cV rfl rfl (R.chan hj) rfl g_mN_promise_113 mC_hasRoomForState_ok (Nat.le_of_ble_eq_true rfl) (Nat.le_of_ble_eq_true rfl) (c_C_hasRoomForState (R.chan hj)) ?_
    refine xV.ckS rfl g_mN_promise_74 (Nat.le_of_ble_eq_true rfl) rfl hr0 (fun t => xEd_some (by unfold ePromC; rw [if_pos ⟨z, t1⟩, if_pos t2, if_neg (fun t' => of_decide_eq_false t t'.2)])) (fun t => ?_)
    have t4 := of_decide_eq_true t
    have hl : S.2.2.1 (21, j, 0) 5 < 63 := by
      have := hch.2.2.1
      rw [show (63 : Int32) = nI 63 from rfl, xn_lt (by omega) (by omega)] at t4
      exact t4
    have hnn := hnp z
    obtain rfl := hp z t1
    refine xV.step rfl ?_
    refine xV.step rfl ?_
    refine xV.step rfl ?_
    refine xV.step rfl ?_
    refine xV.step rfl ?_
    refine xV.callV (n := 4) rfl rfl (R.chan hj) rfl g_mN_promise_117 mC_addPromise_ok (Nat.le_of_ble_eq_true rfl) (Nat.le_of_ble_eq_true rfl) (R.addP hj hl (by omega) hr.1 hr.2) (fun w u hz => ?_) (fun a u hz => by cases hz.1)
    obtain ⟨e1, E', c', mo, e2, e3, e4⟩ := hz
    cases e1
    exact xV.iret rfl rfl rfl (xEd_none (by unfold ePromC; rw [if_pos ⟨z, t1⟩, if_pos t2, if_pos ⟨t3, t4⟩]) ⟨rfl, E', c', mo, e2 _ kV_0 (fun e => by cases e), e3, e4⟩)
  have g1 : ∀ b : Bool, decide (1 ≤ a) = b → xV D N0 mN_promise (d + 8) 26 [some (.ref (E (0, 0, 0))), some (.int c), some (.int n), some (.int a), some (.long lo), none, some (.int e), some (.ref (E (21, j, 0)))] [.int (xB b)] h (xEd (ePromC S c n a e j) h (prEnd D E S K h j p a lo e)) := by
    intro b hb
    refine xV.ckA rfl g_mN_promise_62 (Nat.le_of_ble_eq_true rfl) rfl hr0 (fun t => xEd_some (by unfold ePromC; rw [if_pos ⟨z, t1⟩, if_neg (of_decide_eq_false (hb.trans t))])) (fun t => ?_)
    have t2 := of_decide_eq_true (hb.trans t)
    refine xV.step rfl ?_
    refine xV.step rfl ?_
    refine xV.step rfl ?_
    refine xV.cV rfl rfl (R.chan hj) rfl g_mN_promise_109 mC_canCarry_ok (Nat.le_of_ble_eq_true rfl) (Nat.le_of_ble_eq_true rfl) (c_C_canCarry (R.chan hj) (R.chan1 hj) (R.chan2 hj) hch.2.2.1 (R.lK hj) hch.2.2.2 (R.aP hj)) ?_
    refine xV.br rfl (fun h1 => ?_) (fun h1 => ?_)
    · refine xV.step rfl ?_
      exact g2 t2 false (decide_eq_false (fun t => by have := t.1; unfold ccarC at this; rw [xB_f h1] at this; cases this))
    refine xV.step rfl ?_
    refine xV.step rfl ?_
    refine xV.get xcl_ok rfl R.net rfl ?_
    refine xV.br rfl (fun h2 => ?_) (fun h2 => ?_)
    · refine xV.step rfl ?_
      exact g2 t2 false (decide_eq_false (fun t => by have := t.2; simp only [Int32.lt_iff_toInt_lt, Int32.le_iff_toInt_le] at *; omega))
    · refine xV.step rfl ?_
      refine xV.step rfl ?_
      exact g2 t2 true (decide_eq_true ⟨xB_t h1, by simp only [Int32.lt_iff_toInt_lt, Int32.le_iff_toInt_le] at *; omega⟩)
  refine xV.step rfl ?_
  refine xV.step rfl ?_
  refine xV.br rfl (fun h1 => ?_) (fun h1 => ?_)
  · refine xV.step rfl ?_
    exact g1 false (decide_eq_false (fun t => by simp only [Int32.lt_iff_toInt_lt, Int32.le_iff_toInt_le] at *; omega))
  · refine xV.step rfl ?_
    refine xV.step rfl ?_
    exact g1 true (decide_eq_true (by simp only [Int32.lt_iff_toInt_lt, Int32.le_iff_toInt_le] at *; omega))
end X70
