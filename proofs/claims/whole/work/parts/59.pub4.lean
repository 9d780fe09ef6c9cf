/- Part 59: public methods that change a channel. -/
/-- a channel's small numbers are small -/
def chOK (S : CS) (j : Nat) : Prop := S.2.2.1 (21, j, 0) 0 < 6 ∧ S.2.2.1 (21, j, 0) 1 < 6 ∧ S.2.2.1 (21, j, 0) 5 < 64 ∧ S.2.2.2 (24, j, 0) 0 ≤ 64
def cOK (S : CS) : Prop := (∀ j, j < S.2.2.2 (9, 0, 0) 0 → chOK S j) ∧ ∀ j k, j < S.2.2.2 (9, 0, 0) 0 → k < S.2.2.2 (24, j, 0) 0 → S.2.2.1 (26, j, k) 0 < 6 ∧ S.2.2.1 (26, j, k) 1 < 6
/-- channel j's next state -/
def cst (S : CS) (j : Nat) (n ch : Int32) : CS := cfN (cfI (cfI S (22, j, 0) (S.2.2.1 (21, j, 0) 5 + 1) (S.1 (22, j, 0) (S.2.2.1 (21, j, 0) 5) + if n = nI (S.2.2.1 (21, j, 0) 0) then ch else 0)) (23, j, 0) (S.2.2.1 (21, j, 0) 5 + 1) (S.1 (23, j, 0) (S.2.2.1 (21, j, 0) 5) + if n = nI (S.2.2.1 (21, j, 0) 1) then ch else 0)) (21, j, 0) 5 (S.2.2.1 (21, j, 0) 5 + 1)
def cendp (S : CS) (j k : Nat) (rc : Int32) : CS := cfI (cst S j rc (S.1 (26, j, k) 2)) (26, j, k) 6 (nI (S.2.2.1 (21, j, 0) 5 + 1))
section X59
variable {D : va_G} {N0 : Nat} {d dc : Nat} {h : XH} {E : RO → Nat} {S : CS} {K : Nat → Option XC}
theorem Rep.state (R : Rep E dc S K h) {j : Nat} (hj : j < S.2.2.2 (9, 0, 0) 0) (n ch : Int32) : Rep E dc (cst S j n ch) K (hst h (E (21, j, 0)) (nI (S.2.2.1 (21, j, 0) 0)) (nI (S.2.2.1 (21, j, 0) 1)) (E (22, j, 0)) (E (23, j, 0)) (E (24, j, 0)) (S.2.2.1 (21, j, 0) 5) (S.1 (21, j, 0) 6) (S.1 (21, j, 0) 7) (S.1 (21, j, 0) 8) (S.1 (21, j, 0) 9) (S.1 (21, j, 0) 10) (bZ (S.1 (21, j, 0) 11)) (S.1 (22, j, 0)) (S.1 (23, j, 0)) n ch) := by
  have R1 := R.put (r := (22, j, 0)) ⟨hj, rfl⟩ (upd (S.1 (22, j, 0)) (S.2.2.1 (21, j, 0) 5 + 1) (S.1 (22, j, 0) (S.2.2.1 (21, j, 0) 5) + if n = nI (S.2.2.1 (21, j, 0) 0) then ch else 0)) (S.2.1 (22, j, 0)) (S.2.2.1 (22, j, 0))
  have R2 := R1.put (r := (23, j, 0)) ⟨hj, rfl⟩ (upd (S.1 (23, j, 0)) (S.2.2.1 (21, j, 0) 5 + 1) (S.1 (23, j, 0) (S.2.2.1 (21, j, 0) 5) + if n = nI (S.2.2.1 (21, j, 0) 1) then ch else 0)) (S.2.1 (23, j, 0)) (S.2.2.1 (23, j, 0))
  exact R2.put (r := (21, j, 0)) ⟨hj, rfl⟩ (S.1 (21, j, 0)) (S.2.1 (21, j, 0)) (fun k => if k = 5 then S.2.2.1 (21, j, 0) 5 + 1 else S.2.2.1 (21, j, 0) k)
/-- a promise ends -/
theorem Rep.endp (R : Rep E dc S K h) {j k : Nat} (hj : j < S.2.2.2 (9, 0, 0) 0) (hk : k < S.2.2.2 (24, j, 0) 0) (hl : S.2.2.1 (21, j, 0) 5 < 63) (rc : Int32) : ∃ u, xV D N0 mC_endPromise (d + 1) 0 (xargs 3 [.ref (E (21, j, 0)), .ref (E (26, j, k)), .int rc]) [] h (xEq (.returned none) u) ∧ Rep E dc (cendp S j k rc) K u ∧ xSz h u := by
  refine ⟨_, c_C_endPromise (R.chan hj) (R.chan1 hj) (R.chan2 hj) (R.prom hj hk) hl (R.ne ⟨hj, rfl⟩ ⟨hj, rfl⟩ (fun z => by cases z)) (R.ne ⟨hj, rfl⟩ ⟨hj, rfl⟩ (fun z => by cases z)) (R.ne ⟨hj, rfl⟩ ⟨hj, rfl⟩ (fun z => by cases z)) (R.ne ⟨hj, hk⟩ ⟨hj, rfl⟩ (fun z => by cases z)) (R.ne ⟨hj, hk⟩ ⟨hj, rfl⟩ (fun z => by cases z)) (R.ne ⟨hj, hk⟩ ⟨hj, rfl⟩ (fun z => by cases z)), ?_, rfl, rfl, rfl⟩
  exact (R.state hj rc (S.1 (26, j, k) 2)).put (r := (26, j, k)) ⟨hj, hk⟩ (upd (S.1 (26, j, k)) 6 (nI (S.2.2.1 (21, j, 0) 5 + 1))) (S.2.1 (26, j, k)) (S.2.2.1 (26, j, k))
theorem cst_la (S : CS) (j : Nat) (n ch : Int32) : (cst S j n ch).2.2.1 (21, j, 0) 5 = S.2.2.1 (21, j, 0) 5 + 1 := by
  unfold cst cfN cset
  simp
theorem cendp_la (S : CS) (j k : Nat) (rc : Int32) : (cendp S j k rc).2.2.1 (21, j, 0) 5 = S.2.2.1 (21, j, 0) 5 + 1 := cst_la S j rc _
theorem clearn_la (S : CS) (k : Int64) (z : Int32) (j : Nat) : (clearn S k z).2.2.1 (21, j, 0) = S.2.2.1 (21, j, 0) := by
  unfold clearn
  cases mfind (S.2.1 (7, 0, 0)) k (S.2.2.1 (6, 0, 0) 0) <;> rfl
theorem clearn_z (S : CS) (k : Int64) (z : Int32) : (clearn S k z).2.2.2 = S.2.2.2 := by
  unfold clearn
  cases mfind (S.2.1 (7, 0, 0)) k (S.2.2.1 (6, 0, 0) 0) <;> rfl
/-- a promise of the latest state -/
def lAt (S : CS) (k : Int32) (j q : Nat) : Bool := inr0 k (S.2.2.2 (24, j, 0) 0) && isIn0 (S.1 (26, j, q) 5) (S.1 (26, j, q) 6) (nI (S.2.2.1 (21, j, 0) 5))
theorem Rep.lAtW (R : Rep E dc S K h) (hr : xrm h) {j q : Nat} {k : Int32} (hj : j < S.2.2.2 (9, 0, 0) 0) (hk : inr0 k (S.2.2.2 (24, j, 0) 0) = true → k = nI q ∧ q < S.2.2.2 (24, j, 0) 0) : xV D N0 mN_latestPromise (d + 8) 0 (xargs 3 [.ref (E (21, j, 0)), .int k]) [] h (xGt (lAt S k j q) (.ref (E (26, j, q))) h) :=
  c_N_latestPromise (q := fun i => E (26, j, i)) (R.chan hj) (R.lK hj) hk (fun z => R.prom hj (hk z).2) hr
def eDrop (S : CS) (c k : Int32) (j q : Nat) : Option Nat := if cAt S c = true ∧ lAt S k j q = true then (if S.1 (21, j, 0) 6 = 0 ∧ nI (S.2.2.1 (21, j, 0) 5) < 63 then none else some 10) else some 8
theorem c_N_drop (R : Rep E dc S K h) (hr : xrm h) (hO : cOK S) {j q : Nat} {c k : Int32} (hc : cAt S c = true → c = nI j ∧ j < S.2.2.2 (9, 0, 0) 0) (hk : cAt S c = true → inr0 k (S.2.2.2 (24, j, 0) 0) = true → k = nI q ∧ q < S.2.2.2 (24, j, 0) 0) : xV D N0 mN_drop (d + 9) 0 (xargs 5 [.ref (E (0, 0, 0)), .int c, .int k]) [] h (xEd (eDrop S c k j q) h (fun o u => o = .returned (some (.int (nI (S.2.2.1 (21, j, 0) 5 + 1)))) ∧ Rep E dc (cendp S j q (nI (S.2.2.1 (26, j, q) 0))) K u ∧ xSz h u)) := by
  refine xV.step rfl ?_
  refine xV.step rfl ?_
  refine xV.gV rfl rfl R.net rfl g_mN_drop_98 mN_channelAt_ok (Nat.le_of_ble_eq_true rfl) (Nat.le_of_ble_eq_true rfl) rfl (R.chW hr hc) (fun z => xEd_some (by unfold eDrop; rw [if_neg (fun y => by rw [z] at y; cases y.1)])) (fun z => ?_)
  have hj := (hc z).2
  refine xV.step rfl ?_
  show xV D N0 mN_drop (d + 9) 6 [some (.ref (E (0, 0, 0))), some (.int c), some (.int k), some (.ref (E (21, j, 0))), none] [] h _
  refine xV.step rfl ?_
  refine xV.step rfl ?_
  refine xV.gS rfl rfl g_mN_drop_121 mN_latestPromise_ok (Nat.le_of_ble_eq_true rfl) (Nat.le_of_ble_eq_true rfl) rfl (R.lAtW hr hj (hk z)) (fun y => xEd_some (by unfold eDrop; rw [if_neg (fun t => by rw [y] at t; cases t.2)])) (fun y => ?_)
  have hq : q < S.2.2.2 (24, j, 0) 0 := by
    unfold lAt at y
    rw [Bool.and_eq_true] at y
    exact (hk z y.1).2
  refine xV.step rfl ?_
  show xV D N0 mN_drop (d + 9) 13 [some (.ref (E (0, 0, 0))), some (.int c), some (.int k), some (.ref (E (21, j, 0))), some (.ref (E (26, j, q)))] [] h _
  have go : ∀ b : Bool, decide (S.1 (21, j, 0) 6 = 0) = b → xV D N0 mN_drop (d + 9) 25 [some (.ref (E (0, 0, 0))), some (.int c), some (.int k), some (.ref (E (21, j, 0))), some (.ref (E (26, j, q)))] [.int (xB b)] h (xEd (eDrop S c k j q) h (fun o u => o = .returned (some (.int (nI (S.2.2.1 (21, j, 0) 5 + 1)))) ∧ Rep E dc (cendp S j q (nI (S.2.2.1 (26, j, q) 0))) K u ∧ xSz h u)) := by
    intro b hb
    refine xV.ckS rfl g_mN_drop_74 (Nat.le_of_ble_eq_true rfl) rfl hr (fun t => xEd_some (by unfold eDrop; rw [if_pos ⟨z, y⟩, if_neg (fun t' => of_decide_eq_false (hb.trans t) t'.1)])) (fun t => ?_)
    have t1 := of_decide_eq_true (hb.trans t)
    refine xV.step rfl ?_
    refine xV.cV rfl rfl (R.chan hj) rfl g_mN_drop_113 mC_hasRoomForState_ok (Nat.le_of_ble_eq_true rfl) (Nat.le_of_ble_eq_true rfl) (c_C_hasRoomForState (R.chan hj)) ?_
    refine xV.ckS rfl g_mN_drop_74 (Nat.le_of_ble_eq_true rfl) rfl hr (fun t => xEd_some (by unfold eDrop; rw [if_pos ⟨z, y⟩, if_neg (fun t' => of_decide_eq_false t t'.2)])) (fun t => ?_)
    have t2 := of_decide_eq_true t
    have hl : S.2.2.1 (21, j, 0) 5 < 63 := by
      have := (hO.1 j hj).2.2.1
      rw [show (63 : Int32) = nI 63 from rfl, xn_lt (by omega) (by omega)] at t2
      exact t2
    refine xV.step rfl ?_
    refine xV.step rfl ?_
    refine xV.step rfl ?_
    refine xV.get xcl_ok rfl (R.prom hj hq) rfl ?_
    obtain ⟨u, e1, e2, e3⟩ := R.endp (D := D) (N0 := N0) (d := d + 7) hj hq hl (nI (S.2.2.1 (26, j, q) 0))
    refine xV.cV rfl rfl (R.chan hj) rfl g_mN_drop_140 mC_endPromise_ok (Nat.le_of_ble_eq_true rfl) (Nat.le_of_ble_eq_true rfl) e1 ?_
    refine xV.step rfl ?_
    refine xV.get xcl_ok rfl (e2.chan hj) rfl ?_
    rw [cendp_la]
    exact xV.iret rfl rfl rfl (xEd_none (by unfold eDrop; rw [if_pos ⟨z, y⟩, if_pos ⟨t1, t2⟩]) ⟨rfl, e2, e3⟩)
  refine xV.step rfl ?_
  refine xV.get xcl_ok rfl (R.chan hj) rfl ?_
  refine xV.br rfl (fun h1 => ?_) (fun h1 => ?_)
  · refine xV.step rfl ?_
    refine xV.step rfl ?_
    exact go true (decide_eq_true h1)
  · refine xV.step rfl ?_
    exact go false (decide_eq_false h1)
def ePub (S : CS) (c n s : Int32) (j : Nat) : Option Nat := if cAt S c = true ∧ (n = nI (S.2.2.1 (21, j, 0) 0) ∨ n = nI (S.2.2.1 (21, j, 0) 1)) ∧ (0 ≤ s ∧ s ≤ nI (S.2.2.1 (21, j, 0) 5)) then (if S.1 (21, j, 0) 6 = 0 then none else some 10) else some 8
def cpub (S : CS) (j : Nat) (n s : Int32) : CS := cset S (21, j, 0) (upd (upd (upd (upd (S.1 (21, j, 0)) 6 1) 8 n) 9 s) 10 (S.1 (0, 0, 0) 0)) (S.2.1 (21, j, 0)) (S.2.2.1 (21, j, 0))
theorem c_N_publish (R : Rep E dc S K h) (hr : xrm h) {j : Nat} {c n s : Int32} (hc : cAt S c = true → c = nI j ∧ j < S.2.2.2 (9, 0, 0) 0) : xV D N0 mN_publish (d + 8) 0 (xargs 5 [.ref (E (0, 0, 0)), .int c, .int n, .int s]) [] h (xEd (ePub S c n s j) h (fun o u => o = .returned none ∧ Rep E dc (cpub S j n s) K u ∧ xSz h u)) := by
  refine xV.step rfl ?_
  refine xV.step rfl ?_
  refine xV.gV rfl rfl R.net rfl g_mN_publish_98 mN_channelAt_ok (Nat.le_of_ble_eq_true rfl) (Nat.le_of_ble_eq_true rfl) rfl (R.chW hr hc) (fun z => xEd_some (by unfold ePub; rw [if_neg (fun y => by rw [z] at y; cases y.1)])) (fun z => ?_)
  have hj := (hc z).2
  refine xV.step rfl ?_
  show xV D N0 mN_publish (d + 8) 7 [some (.ref (E (0, 0, 0))), some (.int c), some (.int n), some (.int s), some (.ref (E (21, j, 0)))] [] h _
  refine xV.step rfl ?_
  refine xV.step rfl ?_
  refine xV.cV rfl rfl (R.chan hj) rfl g_mN_publish_102 mC_joins_ok (Nat.le_of_ble_eq_true rfl) (Nat.le_of_ble_eq_true rfl) (c_C_joins (R.chan hj)) ?_
  refine xV.ckI rfl g_mN_publish_106 (Nat.le_of_ble_eq_true rfl) rfl hr (fun t => xEd_some (by unfold ePub; rw [if_neg (fun t' => of_decide_eq_false t t'.2.1)])) (fun t => ?_)
  have t1 := of_decide_eq_true t
  refine xV.step rfl ?_
  refine xV.step rfl ?_
  refine xV.cV rfl rfl (R.chan hj) rfl g_mN_publish_177 mC_hasState_ok (Nat.le_of_ble_eq_true rfl) (Nat.le_of_ble_eq_true rfl) (c_C_hasState (R.chan hj)) ?_
  refine xV.ckI rfl g_mN_publish_106 (Nat.le_of_ble_eq_true rfl) rfl hr (fun t => xEd_some (by unfold ePub; rw [if_neg (fun t' => of_decide_eq_false t t'.2.2)])) (fun t => ?_)
  have t2 := of_decide_eq_true t
  have go : ∀ b : Bool, decide (S.1 (21, j, 0) 6 = 0) = b → xV D N0 mN_publish (d + 8) 38 [some (.ref (E (0, 0, 0))), some (.int c), some (.int n), some (.int s), some (.ref (E (21, j, 0)))] [.int (xB b)] h (xEd (ePub S c n s j) h (fun o u => o = .returned none ∧ Rep E dc (cpub S j n s) K u ∧ xSz h u)) := by
    intro b hb
    refine xV.ckS rfl g_mN_publish_74 (Nat.le_of_ble_eq_true rfl) rfl hr (fun t => xEd_some (by unfold ePub; rw [if_pos ⟨z, t1, t2⟩, if_neg (of_decide_eq_false (hb.trans t))])) (fun t => ?_)
    have t3 := of_decide_eq_true (hb.trans t)
    refine xV.step rfl ?_
    refine xV.step rfl ?_
    refine xV.put xcl_ok rfl (R.chan hj) rfl rfl rfl (Nat.le_of_ble_eq_true rfl) ?_
    refine xV.step rfl ?_
    refine xV.step rfl ?_
    refine xV.put xcl_ok rfl xput_get rfl rfl rfl (Nat.le_of_ble_eq_true rfl) ?_
    rw [xput_put]
    refine xV.step rfl ?_
    refine xV.step rfl ?_
    refine xV.put xcl_ok rfl xput_get rfl rfl rfl (Nat.le_of_ble_eq_true rfl) ?_
    rw [xput_put]
    refine xV.step rfl ?_
    refine xV.step rfl ?_
    have hn := R.net
    rw [← xput_ne (a := E (21, j, 0)) (h := h) (R.ne kV_0 ⟨hj, rfl⟩ (fun z => by cases z))] at hn
    refine xV.get xcl_ok rfl hn rfl ?_
    refine xV.put xcl_ok rfl xput_get rfl rfl rfl (Nat.le_of_ble_eq_true rfl) ?_
    rw [xput_put]
    exact xV.vret rfl rfl (xEd_none (by unfold ePub; rw [if_pos ⟨z, t1, t2⟩, if_pos t3]) ⟨rfl, R.put (r := (21, j, 0)) ⟨hj, rfl⟩ _ _ _, rfl, rfl, rfl⟩)
  refine xV.step rfl ?_
  refine xV.get xcl_ok rfl (R.chan hj) rfl ?_
  refine xV.br rfl (fun h1 => ?_) (fun h1 => ?_)
  · refine xV.step rfl ?_
    refine xV.step rfl ?_
    exact go true (decide_eq_true h1)
  · refine xV.step rfl ?_
    exact go false (decide_eq_false h1)
end X59
