/- Part 61: claim, takeBack, settle. -/
/-- promise k of channel j paid to node v -/
def cpayp (S : CS) (j k v : Nat) : CS := cset (cfI (cfI S (1, 0, 0) v (S.1 (1, 0, 0) v + S.1 (26, j, k) 2)) (26, j, k) 7 1) (21, j, 0) (upd (upd (S.1 (21, j, 0)) 7 (S.1 (21, j, 0) 7 - S.1 (26, j, k) 2)) 6 (cspent (S.1 (21, j, 0) 6) (S.1 (21, j, 0) 7 - S.1 (26, j, k) 2) (bZ (S.1 (21, j, 0) 11)))) (S.2.1 (21, j, 0)) (S.2.2.1 (21, j, 0))
theorem cpayp_w (S : CS) (j k v : Nat) (q : RO) : (cpayp S j k v).2.2.1 q = S.2.2.1 q := by
  unfold cpayp
  rw [cset_w, cfI_w, cfI_w]
  by_cases e : q = (21, j, 0)
  · rw [if_pos e, e]
  · rw [if_neg e]
/-- a promise that the ledger may pay -/
def gAt (S : CS) (k : Int32) (j q : Nat) : Bool := inr0 k (S.2.2.2 (24, j, 0) 0) && (decide (S.1 (21, j, 0) 9 = -1) || (isIn0 (S.1 (26, j, q) 5) (S.1 (26, j, q) 6) (S.1 (21, j, 0) 9) && !(bZ (S.1 (26, j, q) 7))))
section X61
variable {D : va_G} {N0 : Nat} {d dc : Nat} {h : XH} {E : RO → Nat} {S : CS} {K : Nat → Option XC}
theorem Rep.gAtW (R : Rep E dc S K h) (hr : xrm h) {j q : Nat} {k : Int32} (hj : j < S.2.2.2 (9, 0, 0) 0) (hk : inr0 k (S.2.2.2 (24, j, 0) 0) = true → k = nI q ∧ q < S.2.2.2 (24, j, 0) 0) : xV D N0 mN_ledgerPromise (d + 8) 0 (xargs 3 [.ref (E (21, j, 0)), .int k]) [] h (xGt (gAt S k j q) (.ref (E (26, j, q))) h) :=
  c_N_ledgerPromise (q := fun i => E (26, j, i)) (R.chan hj) (R.lK hj) hk (fun z => R.prom hj (hk z).2) hr
theorem Rep.payp (R : Rep E dc S K h) {j k v : Nat} (hj : j < S.2.2.2 (9, 0, 0) 0) (hk : k < S.2.2.2 (24, j, 0) 0) (hv : v < 6) : ∃ u, xV D N0 mN_payPromise (d + 1) 0 (xargs 4 [.ref (E (0, 0, 0)), .ref (E (21, j, 0)), .ref (E (26, j, k)), .int (nI v)]) [] h (xEq (.returned none) u) ∧ Rep E dc (cpayp S j k v) K u ∧ xSz h u := by
  have n3 : E (26, j, k) ≠ E (21, j, 0) := R.ne ⟨hj, hk⟩ ⟨hj, rfl⟩ (fun z => by cases z)
  refine ⟨_, c_N_payPromise R.net (R.chan hj) (R.prom hj hk) R.coins hv (R.ne ⟨hj, rfl⟩ kV_1 (fun z => by cases z)) (R.ne ⟨hj, hk⟩ kV_1 (fun z => by cases z)) n3, ?_, rfl, rfl, rfl⟩
  rw [xput_comm (a := E (21, j, 0)) (b := E (26, j, k)) (Ne.symm n3), xput_put]
  have R1 := R.put kV_1 (upd (S.1 (1, 0, 0)) v (S.1 (1, 0, 0) v + S.1 (26, j, k) 2)) (S.2.1 (1, 0, 0)) (S.2.2.1 (1, 0, 0))
  have R2 := R1.put (r := (26, j, k)) ⟨hj, hk⟩ (upd (S.1 (26, j, k)) 7 1) (S.2.1 (26, j, k)) (S.2.2.1 (26, j, k))
  exact R2.put (r := (21, j, 0)) ⟨hj, rfl⟩ (upd (upd (S.1 (21, j, 0)) 7 (S.1 (21, j, 0) 7 - S.1 (26, j, k) 2)) 6 (cspent (S.1 (21, j, 0) 6) (S.1 (21, j, 0) 7 - S.1 (26, j, k) 2) (bZ (S.1 (21, j, 0) 11)))) (S.2.1 (21, j, 0)) (S.2.2.1 (21, j, 0))
def eTake (S : CS) (c k : Int32) (j q : Nat) : Option Nat := if cAt S c = true ∧ gAt S k j q = true then (if (S.1 (21, j, 0) 6 = 1 ∧ cmay S j = false) ∧ S.1 (26, j, q) 4 ≤ S.1 (0, 0, 0) 0 then none else some 10) else some 8
theorem c_N_takeBack (R : Rep E dc S K h) (hr : xrm h) (hO : cOK S) {j q : Nat} {c k : Int32} (hc : cAt S c = true → c = nI j ∧ j < S.2.2.2 (9, 0, 0) 0) (hk : cAt S c = true → inr0 k (S.2.2.2 (24, j, 0) 0) = true → k = nI q ∧ q < S.2.2.2 (24, j, 0) 0) : xV D N0 mN_takeBack (d + 9) 0 (xargs 5 [.ref (E (0, 0, 0)), .int c, .int k]) [] h (xEd (eTake S c k j q) h (fun o u => o = .returned (some (.int ((cpayp S j q (S.2.2.1 (26, j, q) 0)).1 (1, 0, 0) (S.2.2.1 (26, j, q) 0)))) ∧ Rep E dc (cpayp S j q (S.2.2.1 (26, j, q) 0)) K u ∧ xSz h u)) := by
  refine xV.step rfl ?_
  refine xV.step rfl ?_
  refine xV.gV rfl rfl R.net rfl g_mN_takeBack_98 mN_channelAt_ok (Nat.le_of_ble_eq_true rfl) (Nat.le_of_ble_eq_true rfl) rfl (R.chW hr hc) (fun z => xEd_some (by unfold eTake; rw [if_neg (fun y => by rw [z] at y; cases y.1)])) (fun z => ?_)
  have hj := (hc z).2
  refine xV.step rfl ?_
  show xV D N0 mN_takeBack (d + 9) 6 [some (.ref (E (0, 0, 0))), some (.int c), some (.int k), some (.ref (E (21, j, 0))), none] [] h _
  refine xV.step rfl ?_
  refine xV.step rfl ?_
  refine xV.gS rfl rfl g_mN_takeBack_268 mN_ledgerPromise_ok (Nat.le_of_ble_eq_true rfl) (Nat.le_of_ble_eq_true rfl) rfl (R.gAtW hr hj (hk z)) (fun y => xEd_some (by unfold eTake; rw [if_neg (fun t => by rw [y] at t; cases t.2)])) (fun y => ?_)
  have hq : q < S.2.2.2 (24, j, 0) 0 := by
    unfold gAt at y
    rw [Bool.and_eq_true] at y
    exact (hk z y.1).2
  refine xV.step rfl ?_
  show xV D N0 mN_takeBack (d + 9) 13 [some (.ref (E (0, 0, 0))), some (.int c), some (.int k), some (.ref (E (21, j, 0))), some (.ref (E (26, j, q)))] [] h _
  have no : ¬ ((S.1 (21, j, 0) 6 = 1 ∧ cmay S j = false) ∧ S.1 (26, j, q) 4 ≤ S.1 (0, 0, 0) 0) → eTake S c k j q = some 10 := fun t => by unfold eTake; rw [if_pos ⟨z, y⟩, if_neg t]
  have g2 : (S.1 (21, j, 0) 6 = 1 ∧ cmay S j = false) → ∀ b : Bool, decide (S.1 (26, j, q) 4 ≤ S.1 (0, 0, 0) 0) = b → xV D N0 mN_takeBack (d + 9) 57 [some (.ref (E (0, 0, 0))), some (.int c), some (.int k), some (.ref (E (21, j, 0))), some (.ref (E (26, j, q)))] [.int (xB b)] h (xEd (eTake S c k j q) h (fun o u => o = .returned (some (.int ((cpayp S j q (S.2.2.1 (26, j, q) 0)).1 (1, 0, 0) (S.2.2.1 (26, j, q) 0)))) ∧ Rep E dc (cpayp S j q (S.2.2.1 (26, j, q) 0)) K u ∧ xSz h u)) := by
    intro t1 b hb
    refine xV.ckS rfl g_mN_takeBack_74 (Nat.le_of_ble_eq_true rfl) rfl hr (fun t => xEd_some (no (fun t' => of_decide_eq_false (hb.trans t) t'.2))) (fun t => ?_)
    have t2 := of_decide_eq_true (hb.trans t)
    refine xV.step rfl ?_
    refine xV.step rfl ?_
    refine xV.step rfl ?_
    refine xV.step rfl ?_
    refine xV.get xcl_ok rfl (R.prom hj hq) rfl ?_
    obtain ⟨u, e1, e2, e3⟩ := R.payp (D := D) (N0 := N0) (d := d + 7) (v := S.2.2.1 (26, j, q) 0) hj hq (hO.2 j q hj hq).1
    refine xV.cV rfl rfl R.net rfl g_mN_takeBack_271 mN_payPromise_ok (Nat.le_of_ble_eq_true rfl) (Nat.le_of_ble_eq_true rfl) e1 ?_
    have hp := e2.prom hj hq
    rw [cpayp_w] at hp
    refine xV.step rfl ?_
    refine xV.get xcl_ok rfl e2.net rfl ?_
    refine xV.step rfl ?_
    refine xV.get xcl_ok rfl hp rfl ?_
    refine xV.ii (j := S.2.2.1 (26, j, q) 0) rfl e2.coins rfl (hO.2 j q hj hq).1 (by omega) ?_
    exact xV.iret rfl rfl rfl (xEd_none (by unfold eTake; rw [if_pos ⟨z, y⟩, if_pos ⟨t1, t2⟩]) ⟨rfl, e2, e3⟩)
  have g1 : ∀ b : Bool, decide (S.1 (21, j, 0) 6 = 1 ∧ cmay S j = false) = b → xV D N0 mN_takeBack (d + 9) 37 [some (.ref (E (0, 0, 0))), some (.int c), some (.int k), some (.ref (E (21, j, 0))), some (.ref (E (26, j, q)))] [.int (xB b)] h (xEd (eTake S c k j q) h (fun o u => o = .returned (some (.int ((cpayp S j q (S.2.2.1 (26, j, q) 0)).1 (1, 0, 0) (S.2.2.1 (26, j, q) 0)))) ∧ Rep E dc (cpayp S j q (S.2.2.1 (26, j, q) 0)) K u ∧ xSz h u)) := by
    intro b hb
    refine xV.ckS rfl g_mN_takeBack_74 (Nat.le_of_ble_eq_true rfl) rfl hr (fun t => xEd_some (no (fun t' => of_decide_eq_false (hb.trans t) t'.1))) (fun t => ?_)
    have t1 := of_decide_eq_true (hb.trans t)
    refine xV.step rfl ?_
    refine xV.get xcl_ok rfl (R.prom hj hq) rfl ?_
    refine xV.step rfl ?_
    refine xV.get xcl_ok rfl R.net rfl ?_
    refine xV.br rfl (fun h2 => ?_) (fun h2 => ?_)
    · refine xV.step rfl ?_
      exact g2 t1 false (decide_eq_false (fun t => by simp only [Int32.lt_iff_toInt_lt, Int32.le_iff_toInt_le] at *; omega))
    · refine xV.step rfl ?_
      refine xV.step rfl ?_
      exact g2 t1 true (decide_eq_true (by simp only [Int32.lt_iff_toInt_lt, Int32.le_iff_toInt_le] at *; omega))
  refine xV.step rfl ?_
  refine xV.get xcl_ok rfl (R.chan hj) rfl ?_
  refine xV.step rfl ?_
  refine xV.br rfl (fun h1 => ?_) (fun h1 => ?_)
  · refine xV.step rfl ?_
    refine xV.step rfl ?_
    refine xV.get xcl_ok rfl R.net rfl ?_
    refine xV.cV rfl rfl (R.chan hj) rfl g_mN_takeBack_258 mC_isPunishable_ok (Nat.le_of_ble_eq_true rfl) (Nat.le_of_ble_eq_true rfl) (c_C_isPunishable (R.chan hj)) ?_
    refine xV.br rfl (fun h2 => ?_) (fun h2 => ?_)
    · refine xV.step rfl ?_
      refine xV.step rfl ?_
      exact g1 true (decide_eq_true ⟨h1, xB_f h2⟩)
    · refine xV.step rfl ?_
      exact g1 false (decide_eq_false (fun t => by have := t.2; unfold cmay at this; rw [xB_t h2] at this; cases this))
  · refine xV.step rfl ?_
    exact g1 false (decide_eq_false (fun t => h1 t.1))
def eClaim (S : CS) (c k : Int32) (s : Int64) (j q : Nat) : Option Nat := if cAt S c = true ∧ gAt S k j q = true then (if S.2.1 (26, j, q) 0 = lk s then (if (S.1 (21, j, 0) 6 = 1 ∧ cmay S j = false) ∧ S.1 (0, 0, 0) 0 < S.1 (26, j, q) 4 ∧ chas S (lk s) = true then none else some 10) else some 9) else some 8
def cclaim (S : CS) (j q : Nat) (s : Int64) : CS := cpayp (clearn S (lk s) 63) j q (S.2.2.1 (26, j, q) 1)
theorem c_N_claim (R : Rep E dc S K h) (hr : xrm h) (hO : cOK S) (hd : cdis S) {j q : Nat} {c k : Int32} {s : Int64} (hc : cAt S c = true → c = nI j ∧ j < S.2.2.2 (9, 0, 0) 0) (hk : cAt S c = true → inr0 k (S.2.2.2 (24, j, 0) 0) = true → k = nI q ∧ q < S.2.2.2 (24, j, 0) 0) : xV D N0 mN_claim (d + 9) 0 (xargs 9 [.ref (E (0, 0, 0)), .int c, .int k, .long s]) [] h (xEd (eClaim S c k s j q) h (fun o u => o = .returned (some (.int ((cclaim S j q s).1 (1, 0, 0) (S.2.2.1 (26, j, q) 1)))) ∧ Rep E dc (cclaim S j q s) K u ∧ xSz h u)) := by
  refine xV.step rfl ?_
  refine xV.step rfl ?_
  refine xV.gV rfl rfl R.net rfl g_mN_claim_98 mN_channelAt_ok (Nat.le_of_ble_eq_true rfl) (Nat.le_of_ble_eq_true rfl) rfl (R.chW hr hc) (fun z => xEd_some (by unfold eClaim; rw [if_neg (fun y => by rw [z] at y; cases y.1)])) (fun z => ?_)
  have hj := (hc z).2
  refine xV.step rfl ?_
  show xV D N0 mN_claim (d + 9) 7 [some (.ref (E (0, 0, 0))), some (.int c), some (.int k), some (.long s), none, some (.ref (E (21, j, 0))), none, none, none] [] h _
  refine xV.step rfl ?_
  refine xV.step rfl ?_
  refine xV.gS rfl rfl g_mN_claim_268 mN_ledgerPromise_ok (Nat.le_of_ble_eq_true rfl) (Nat.le_of_ble_eq_true rfl) rfl (R.gAtW hr hj (hk z)) (fun y => xEd_some (by unfold eClaim; rw [if_neg (fun t => by rw [y] at t; cases t.2)])) (fun y => ?_)
  have hq : q < S.2.2.2 (24, j, 0) 0 := by
    unfold gAt at y
    rw [Bool.and_eq_true] at y
    exact (hk z y.1).2
  refine xV.step rfl ?_
  show xV D N0 mN_claim (d + 9) 15 [some (.ref (E (0, 0, 0))), some (.int c), some (.int k), some (.long s), none, some (.ref (E (21, j, 0))), some (.ref (E (26, j, q))), none, none] [] h _
  refine xV.step rfl ?_
  refine xV.cS rfl rfl g_mN_claim_66 mN_lockOf_ok (Nat.le_of_ble_eq_true rfl) (Nat.le_of_ble_eq_true rfl) c_N_lockOf ?_
  refine xV.step rfl ?_
  show xV D N0 mN_claim (d + 9) 21 [some (.ref (E (0, 0, 0))), some (.int c), some (.int k), some (.long s), none, some (.ref (E (21, j, 0))), some (.ref (E (26, j, q))), some (.long (lk s)), none] [] h _
  have g3 : S.2.1 (26, j, q) 0 = lk s → (S.1 (21, j, 0) 6 = 1 ∧ cmay S j = false) → ∀ b : Bool, decide (S.1 (0, 0, 0) 0 < S.1 (26, j, q) 4) = b → xV D N0 mN_claim (d + 9) 86 [some (.ref (E (0, 0, 0))), some (.int c), some (.int k), some (.long s), none, some (.ref (E (21, j, 0))), some (.ref (E (26, j, q))), some (.long (lk s)), none] [.int (xB b)] h (xEd (eClaim S c k s j q) h (fun o u => o = .returned (some (.int ((cclaim S j q s).1 (1, 0, 0) (S.2.2.1 (26, j, q) 1)))) ∧ Rep E dc (cclaim S j q s) K u ∧ xSz h u)) := by
    intro hlk t1 b hb
    have no : ¬ ((S.1 (21, j, 0) 6 = 1 ∧ cmay S j = false) ∧ S.1 (0, 0, 0) 0 < S.1 (26, j, q) 4 ∧ chas S (lk s) = true) → eClaim S c k s j q = some 10 := fun t => by unfold eClaim; rw [if_pos ⟨z, y⟩, if_pos hlk, if_neg t]
    refine xV.ckS rfl g_mN_claim_74 (Nat.le_of_ble_eq_true rfl) rfl hr (fun t => xEd_some (no (fun t' => of_decide_eq_false (hb.trans t) t'.2.1))) (fun t => ?_)
    have t2 := of_decide_eq_true (hb.trans t)
    refine xV.step rfl ?_
    refine xV.get xcl_ok rfl R.net rfl ?_
    refine xV.step rfl ?_
    refine xV.cV rfl rfl R.secr rfl g_mN_claim_70 mS_hasRoomFor_ok (Nat.le_of_ble_eq_true rfl) (Nat.le_of_ble_eq_true rfl) (c_S_hasRoomFor R.secr R.locks hd.1 hd.2) ?_
    refine xV.ckS rfl g_mN_claim_74 (Nat.le_of_ble_eq_true rfl) rfl hr (fun t => xEd_some (no (fun t' => by have := t'.2.2; unfold chas at this; rw [t] at this; cases this))) (fun t3 => ?_)
    refine xV.step rfl ?_
    refine xV.get xcl_ok rfl R.net rfl ?_
    refine xV.step rfl ?_
    refine xV.step rfl ?_
    refine xV.cV rfl rfl R.secr rfl g_mN_claim_77 mS_learn_ok (Nat.le_of_ble_eq_true rfl) (Nat.le_of_ble_eq_true rfl) (R.cLearn hd t3) ?_
    obtain ⟨r1, r2⟩ := R.learn (lk s) 63
    have hj1 : j < (clearn S (lk s) 63).2.2.2 (9, 0, 0) 0 := by rw [clearn_z]; exact hj
    have hq1 : q < (clearn S (lk s) 63).2.2.2 (24, j, 0) 0 := by rw [clearn_z]; exact hq
    have hp1 := r1.prom hj1 hq1
    rw [clearn_w26] at hp1
    refine xV.step rfl ?_
    refine xV.step rfl ?_
    refine xV.step rfl ?_
    refine xV.step rfl ?_
    refine xV.get xcl_ok rfl hp1 rfl ?_
    obtain ⟨u, e1, e2, e3⟩ := r1.payp (D := D) (N0 := N0) (d := d + 7) (v := S.2.2.1 (26, j, q) 1) hj1 hq1 (hO.2 j q hj hq).2
    refine xV.cV rfl rfl r1.net rfl g_mN_claim_271 mN_payPromise_ok (Nat.le_of_ble_eq_true rfl) (Nat.le_of_ble_eq_true rfl) e1 ?_
    have hp := e2.prom hj1 hq1
    rw [cpayp_w, clearn_w26] at hp
    refine xV.step rfl ?_
    refine xV.get xcl_ok rfl e2.net rfl ?_
    refine xV.step rfl ?_
    refine xV.get xcl_ok rfl hp rfl ?_
    refine xV.ii (j := S.2.2.1 (26, j, q) 1) rfl e2.coins rfl (hO.2 j q hj hq).2 (by omega) ?_
    exact xV.iret rfl rfl rfl (xEd_none (by unfold eClaim; rw [if_pos ⟨z, y⟩, if_pos hlk, if_pos ⟨t1, t2, t3⟩]) ⟨rfl, e2, r2.trans e3⟩)
  have g2 : S.2.1 (26, j, q) 0 = lk s → ∀ b : Bool, decide (S.1 (21, j, 0) 6 = 1 ∧ cmay S j = false) = b → xV D N0 mN_claim (d + 9) 66 [some (.ref (E (0, 0, 0))), some (.int c), some (.int k), some (.long s), none, some (.ref (E (21, j, 0))), some (.ref (E (26, j, q))), some (.long (lk s)), none] [.int (xB b)] h (xEd (eClaim S c k s j q) h (fun o u => o = .returned (some (.int ((cclaim S j q s).1 (1, 0, 0) (S.2.2.1 (26, j, q) 1)))) ∧ Rep E dc (cclaim S j q s) K u ∧ xSz h u)) := by
    intro hlk b hb
    refine xV.ckS rfl g_mN_claim_74 (Nat.le_of_ble_eq_true rfl) rfl hr (fun t => xEd_some (by unfold eClaim; rw [if_pos ⟨z, y⟩, if_pos hlk, if_neg (fun t' => of_decide_eq_false (hb.trans t) t'.1)])) (fun t => ?_)
    have t1 := of_decide_eq_true (hb.trans t)
    refine xV.step rfl ?_
    refine xV.get xcl_ok rfl (R.prom hj hq) rfl ?_
    refine xV.step rfl ?_
    refine xV.get xcl_ok rfl R.net rfl ?_
    refine xV.br rfl (fun h2 => ?_) (fun h2 => ?_)
    · refine xV.step rfl ?_
      exact g3 hlk t1 false (decide_eq_false (fun t => by simp only [Int32.lt_iff_toInt_lt, Int32.le_iff_toInt_le] at *; omega))
    · refine xV.step rfl ?_
      refine xV.step rfl ?_
      exact g3 hlk t1 true (decide_eq_true (by simp only [Int32.lt_iff_toInt_lt, Int32.le_iff_toInt_le] at *; omega))
  have g1 : ∀ b : Bool, decide (S.2.1 (26, j, q) 0 = lk s) = b → xV D N0 mN_claim (d + 9) 37 [some (.ref (E (0, 0, 0))), some (.int c), some (.int k), some (.long s), none, some (.ref (E (21, j, 0))), some (.ref (E (26, j, q))), some (.long (lk s)), none] [.int (xB b)] h (xEd (eClaim S c k s j q) h (fun o u => o = .returned (some (.int ((cclaim S j q s).1 (1, 0, 0) (S.2.2.1 (26, j, q) 1)))) ∧ Rep E dc (cclaim S j q s) K u ∧ xSz h u)) := by
    intro b hb
    refine xV.ckA rfl g_mN_claim_62 (Nat.le_of_ble_eq_true rfl) rfl hr (fun t => xEd_some (by unfold eClaim; rw [if_pos ⟨z, y⟩, if_neg (of_decide_eq_false (hb.trans t))])) (fun t => ?_)
    have hlk := of_decide_eq_true (hb.trans t)
    refine xV.step rfl ?_
    refine xV.get xcl_ok rfl (R.chan hj) rfl ?_
    refine xV.step rfl ?_
    refine xV.br rfl (fun h1 => ?_) (fun h1 => ?_)
    · refine xV.step rfl ?_
      refine xV.step rfl ?_
      refine xV.get xcl_ok rfl R.net rfl ?_
      refine xV.cV rfl rfl (R.chan hj) rfl g_mN_claim_258 mC_isPunishable_ok (Nat.le_of_ble_eq_true rfl) (Nat.le_of_ble_eq_true rfl) (c_C_isPunishable (R.chan hj)) ?_
      refine xV.br rfl (fun h2 => ?_) (fun h2 => ?_)
      · refine xV.step rfl ?_
        refine xV.step rfl ?_
        exact g2 hlk true (decide_eq_true ⟨h1, xB_f h2⟩)
      · refine xV.step rfl ?_
        exact g2 hlk false (decide_eq_false (fun t => by have := t.2; unfold cmay at this; rw [xB_t h2] at this; cases this))
    · refine xV.step rfl ?_
      exact g2 hlk false (decide_eq_false (fun t => h1 t.1))
  refine xV.step rfl ?_
  refine xV.get xcl_ok rfl (R.prom hj hq) rfl ?_
  refine xV.step rfl ?_
  refine xV.step rfl ?_
  refine xV.br rfl (fun h1 => ?_) (fun h1 => ?_)
  · refine xV.step rfl ?_
    refine xV.step rfl ?_
    exact g1 true (decide_eq_true ((lg_cmp_eq0 _ _).mp h1))
  · refine xV.step rfl ?_
    exact g1 false (decide_eq_false (fun t => h1 ((lg_cmp_eq0 _ _).mpr t)))
def eSetC (S : CS) (c : Int32) (j : Nat) : Option Nat := if cAt S c = true then (if (S.1 (21, j, 0) 6 = 1 ∧ bZ (S.1 (21, j, 0) 11) = false) ∧ S.1 (21, j, 0) 10 + 10 ≤ S.1 (0, 0, 0) 0 then none else some 10) else some 8
def csetl (S : CS) (j l : Nat) : CS := cset (cbal S j l) (21, j, 0) (upd (upd (upd (S.1 (21, j, 0)) 7 (che S j l)) 11 1) 6 (cspent (S.1 (21, j, 0) 6) (che S j l) true)) (S.2.1 (21, j, 0)) (S.2.2.1 (21, j, 0))
theorem c_N_settle (R : Rep E dc S K h) (hr : xrm h) (hO : cOK S) {j l : Nat} {c : Int32} (hc : cAt S c = true → c = nI j ∧ j < S.2.2.2 (9, 0, 0) 0) (hl : cAt S c = true → S.1 (21, j, 0) 6 = 1 → S.1 (21, j, 0) 9 = nI l ∧ l < 64) : xV D N0 mN_settle (d + 8) 0 (xargs 3 [.ref (E (0, 0, 0)), .int c]) [] h (xEd (eSetC S c j) h (fun o u => o = .returned (some (.int (cspent (S.1 (21, j, 0) 6) (che S j l) true))) ∧ Rep E dc (csetl S j l) K u ∧ xSz h u)) := by
  refine xV.step rfl ?_
  refine xV.step rfl ?_
  refine xV.gV rfl rfl R.net rfl g_mN_settle_98 mN_channelAt_ok (Nat.le_of_ble_eq_true rfl) (Nat.le_of_ble_eq_true rfl) rfl (R.chW hr hc) (fun z => xEd_some (by unfold eSetC; rw [if_neg (fun y => by rw [z] at y; cases y)])) (fun z => ?_)
  have hj := (hc z).2
  refine xV.step rfl ?_
  show xV D N0 mN_settle (d + 8) 6 [some (.ref (E (0, 0, 0))), some (.int c), some (.ref (E (21, j, 0)))] [] h _
  have no : ¬ ((S.1 (21, j, 0) 6 = 1 ∧ bZ (S.1 (21, j, 0) 11) = false) ∧ S.1 (21, j, 0) 10 + 10 ≤ S.1 (0, 0, 0) 0) → eSetC S c j = some 10 := fun t => by unfold eSetC; rw [if_pos z, if_neg t]
  have g2 : (S.1 (21, j, 0) 6 = 1 ∧ bZ (S.1 (21, j, 0) 11) = false) → ∀ b : Bool, decide (S.1 (21, j, 0) 10 + 10 ≤ S.1 (0, 0, 0) 0) = b → xV D N0 mN_settle (d + 8) 48 [some (.ref (E (0, 0, 0))), some (.int c), some (.ref (E (21, j, 0)))] [.int (xB b)] h (xEd (eSetC S c j) h (fun o u => o = .returned (some (.int (cspent (S.1 (21, j, 0) 6) (che S j l) true))) ∧ Rep E dc (csetl S j l) K u ∧ xSz h u)) := by
    intro t1 b hb
    refine xV.ckS rfl g_mN_settle_74 (Nat.le_of_ble_eq_true rfl) rfl hr (fun t => xEd_some (no (fun t' => of_decide_eq_false (hb.trans t) t'.2))) (fun t => ?_)
    have t2 := of_decide_eq_true (hb.trans t)
    obtain ⟨hpl, hl4⟩ := hl z t1.1
    refine xV.step rfl ?_
    refine xV.step rfl ?_
    refine xV.step rfl ?_
    refine xV.get xcl_ok rfl (R.chan hj) rfl ?_
    rw [hpl]
    refine xV.cV rfl rfl R.net rfl g_mN_settle_154 mN_payBalances_ok (Nat.le_of_ble_eq_true rfl) (Nat.le_of_ble_eq_true rfl) (R.bals hj (hO.1 j hj) hl4) ?_
    refine xV.step rfl ?_
    refine xV.step rfl ?_
    refine xV.put xcl_ok rfl xput_get rfl rfl rfl (Nat.le_of_ble_eq_true rfl) ?_
    rw [xput_put]
    refine xV.step rfl ?_
    have hch : xget (xput (xput h (E (1, 0, 0)) (.inl (false, .int, 6, .inl (cco S j l)))) (E (21, j, 0)) (.inr (4, chF (nI (S.2.2.1 (21, j, 0) 0)) (nI (S.2.2.1 (21, j, 0) 1)) (E (22, j, 0)) (E (23, j, 0)) (E (24, j, 0)) (nI (S.2.2.1 (21, j, 0) 5)) (S.1 (21, j, 0) 6) (che S j l) (S.1 (21, j, 0) 8) (S.1 (21, j, 0) 9) (S.1 (21, j, 0) 10) true))) (E (21, j, 0)) = some (.inr (4, chF (nI (S.2.2.1 (21, j, 0) 0)) (nI (S.2.2.1 (21, j, 0) 1)) (E (22, j, 0)) (E (23, j, 0)) (E (24, j, 0)) (nI (S.2.2.1 (21, j, 0) 5)) (S.1 (21, j, 0) 6) (che S j l) (S.1 (21, j, 0) 8) (S.1 (21, j, 0) 9) (S.1 (21, j, 0) 10) true)) := xput_get
    refine xV.cV rfl rfl hch rfl g_mN_settle_279 mC_closeIfSpent_ok (Nat.le_of_ble_eq_true rfl) (Nat.le_of_ble_eq_true rfl) (c_C_closeIfSpent hch) ?_
    rw [xput_put]
    refine xV.step rfl ?_
    refine xV.get xcl_ok rfl xput_get rfl ?_
    refine xV.iret rfl rfl rfl (xEd_none (by unfold eSetC; rw [if_pos z, if_pos ⟨t1, t2⟩]) ⟨rfl, ?_, rfl, rfl, rfl⟩)
    exact (R.put kV_1 (cco S j l) (S.2.1 (1, 0, 0)) (S.2.2.1 (1, 0, 0))).put (r := (21, j, 0)) ⟨hj, rfl⟩ (upd (upd (upd (S.1 (21, j, 0)) 7 (che S j l)) 11 1) 6 (cspent (S.1 (21, j, 0) 6) (che S j l) true)) (S.2.1 (21, j, 0)) (S.2.2.1 (21, j, 0))
  have g1 : ∀ b : Bool, decide (S.1 (21, j, 0) 6 = 1 ∧ bZ (S.1 (21, j, 0) 11) = false) = b → xV D N0 mN_settle (d + 8) 26 [some (.ref (E (0, 0, 0))), some (.int c), some (.ref (E (21, j, 0)))] [.int (xB b)] h (xEd (eSetC S c j) h (fun o u => o = .returned (some (.int (cspent (S.1 (21, j, 0) 6) (che S j l) true))) ∧ Rep E dc (csetl S j l) K u ∧ xSz h u)) := by
    intro b hb
    refine xV.ckS rfl g_mN_settle_74 (Nat.le_of_ble_eq_true rfl) rfl hr (fun t => xEd_some (no (fun t' => of_decide_eq_false (hb.trans t) t'.1))) (fun t => ?_)
    have t1 := of_decide_eq_true (hb.trans t)
    refine xV.step rfl ?_
    refine xV.get xcl_ok rfl R.net rfl ?_
    refine xV.step rfl ?_
    refine xV.get xcl_ok rfl (R.chan hj) rfl ?_
    refine xV.step rfl ?_
    refine xV.step rfl ?_
    refine xV.br rfl (fun h2 => ?_) (fun h2 => ?_)
    · refine xV.step rfl ?_
      exact g2 t1 false (decide_eq_false (fun t => by simp only [Int32.lt_iff_toInt_lt, Int32.le_iff_toInt_le] at *; omega))
    · refine xV.step rfl ?_
      refine xV.step rfl ?_
      exact g2 t1 true (decide_eq_true (by simp only [Int32.lt_iff_toInt_lt, Int32.le_iff_toInt_le] at *; omega))
  refine xV.step rfl ?_
  refine xV.get xcl_ok rfl (R.chan hj) rfl ?_
  refine xV.step rfl ?_
  refine xV.br rfl (fun h1 => ?_) (fun h1 => ?_)
  · refine xV.step rfl ?_
    refine xV.get xcl_ok rfl (R.chan hj) rfl ?_
    refine xV.br rfl (fun h2 => ?_) (fun h2 => ?_)
    · refine xV.step rfl ?_
      refine xV.step rfl ?_
      exact g1 true (decide_eq_true ⟨h1, xB_f h2⟩)
    · refine xV.step rfl ?_
      exact g1 false (decide_eq_false (fun t => by have := t.2; rw [xB_t h2] at this; cases this))
  · refine xV.step rfl ?_
    exact g1 false (decide_eq_false (fun t => h1 t.1))
end X61
