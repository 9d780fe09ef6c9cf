/- Part 60: keep, close, punish. -/
theorem xSz.trans {h u v : XH} (a : xSz h u) (b : xSz u v) : xSz h v := ⟨b.1.trans a.1, b.2.1.trans a.2.1, b.2.2.trans a.2.2⟩
theorem cset_f (S : CS) (r q : RO) (f : Nat → Int32) (g : Nat → Int64) (w : Nat → Nat) : (cset S r f g w).1 q = if q = r then f else S.1 q := rfl
theorem cset_g (S : CS) (r q : RO) (f : Nat → Int32) (g : Nat → Int64) (w : Nat → Nat) : (cset S r f g w).2.1 q = if q = r then g else S.2.1 q := rfl
theorem cset_w (S : CS) (r q : RO) (f : Nat → Int32) (g : Nat → Int64) (w : Nat → Nat) : (cset S r f g w).2.2.1 q = if q = r then w else S.2.2.1 q := rfl
theorem cset_z (S : CS) (r : RO) (f : Nat → Int32) (g : Nat → Int64) (w : Nat → Nat) : (cset S r f g w).2.2.2 = S.2.2.2 := rfl
theorem cfI_f (S : CS) (r q : RO) (i : Nat) (x : Int32) : (cfI S r i x).1 q = if q = r then upd (S.1 r) i x else S.1 q := rfl
theorem cfI_g (S : CS) (r q : RO) (i : Nat) (x : Int32) : (cfI S r i x).2.1 q = S.2.1 q := by
  show (if q = r then S.2.1 r else S.2.1 q) = _
  by_cases e : q = r
  · rw [if_pos e, e]
  · rw [if_neg e]
theorem cfI_w (S : CS) (r q : RO) (i : Nat) (x : Int32) : (cfI S r i x).2.2.1 q = S.2.2.1 q := by
  show (if q = r then S.2.2.1 r else S.2.2.1 q) = _
  by_cases e : q = r
  · rw [if_pos e, e]
  · rw [if_neg e]
theorem cfI_z (S : CS) (r : RO) (i : Nat) (x : Int32) : (cfI S r i x).2.2.2 = S.2.2.2 := rfl
theorem cfN_f (S : CS) (r q : RO) (i x : Nat) : (cfN S r i x).1 q = S.1 q := by
  show (if q = r then S.1 r else S.1 q) = _
  by_cases e : q = r
  · rw [if_pos e, e]
  · rw [if_neg e]
theorem cfN_g (S : CS) (r q : RO) (i x : Nat) : (cfN S r i x).2.1 q = S.2.1 q := by
  show (if q = r then S.2.1 r else S.2.1 q) = _
  by_cases e : q = r
  · rw [if_pos e, e]
  · rw [if_neg e]
theorem cfN_w (S : CS) (r q : RO) (i x : Nat) : (cfN S r i x).2.2.1 q = if q = r then (fun k => if k = i then x else S.2.2.1 r k) else S.2.2.1 q := rfl
theorem cfN_z (S : CS) (r : RO) (i x : Nat) : (cfN S r i x).2.2.2 = S.2.2.2 := rfl
theorem cendp_w26 (S : CS) (j k i : Nat) (rc : Int32) : (cendp S j k rc).2.2.1 (26, j, i) = S.2.2.1 (26, j, i) := by
  unfold cendp
  rw [cfI_w]
  unfold cst
  rw [cfN_w, if_neg (fun z => by cases z), cfI_w, cfI_w]
theorem clearn_w26 (S : CS) (k : Int64) (z : Int32) (j i : Nat) : (clearn S k z).2.2.1 (26, j, i) = S.2.2.1 (26, j, i) := by
  unfold clearn
  cases mfind (S.2.1 (7, 0, 0)) k (S.2.2.1 (6, 0, 0) 0) <;> rfl
section X60
variable {D : va_G} {N0 : Nat} {d dc : Nat} {h : XH} {E : RO → Nat} {S : CS} {K : Nat → Option XC}
def eKeep (S : CS) (c k : Int32) (s : Int64) (j q : Nat) : Option Nat := if cAt S c = true ∧ lAt S k j q = true then (if S.2.1 (26, j, q) 0 = lk s then (if (S.1 (21, j, 0) 6 = 0 ∧ S.1 (0, 0, 0) 0 < S.1 (26, j, q) 4) ∧ nI (S.2.2.1 (21, j, 0) 5) < 63 ∧ chas S (lk s) = true then none else some 10) else some 9) else some 8
def ckeep (S : CS) (j q : Nat) (s : Int64) : CS := clearn (cendp S j q (nI (S.2.2.1 (26, j, q) 1))) (lk s) (((1 : Int32) <<< (nI (S.2.2.1 (26, j, q) 0) &&& 31)) ||| ((1 : Int32) <<< (nI (S.2.2.1 (26, j, q) 1) &&& 31)))
theorem c_N_keep (R : Rep E dc S K h) (hr : xrm h) (hO : cOK S) (hd : cdis S) {j q : Nat} {c k : Int32} {s : Int64} (hc : cAt S c = true → c = nI j ∧ j < S.2.2.2 (9, 0, 0) 0) (hk : cAt S c = true → inr0 k (S.2.2.2 (24, j, 0) 0) = true → k = nI q ∧ q < S.2.2.2 (24, j, 0) 0) : xV D N0 mN_keep (d + 9) 0 (xargs 9 [.ref (E (0, 0, 0)), .int c, .int k, .long s]) [] h (xEd (eKeep S c k s j q) h (fun o u => o = .returned (some (.int (nI (S.2.2.1 (21, j, 0) 5 + 1)))) ∧ Rep E dc (ckeep S j q s) K u ∧ xSz h u)) := by
  refine xV.step rfl ?_
  refine xV.step rfl ?_
  refine xV.gV rfl rfl R.net rfl g_mN_keep_98 mN_channelAt_ok (Nat.le_of_ble_eq_true rfl) (Nat.le_of_ble_eq_true rfl) rfl (R.chW hr hc) (fun z => xEd_some (by unfold eKeep; rw [if_neg (fun y => by rw [z] at y; cases y.1)])) (fun z => ?_)
  have hj := (hc z).2
  refine xV.step rfl ?_
  show xV D N0 mN_keep (d + 9) 7 [some (.ref (E (0, 0, 0))), some (.int c), some (.int k), some (.long s), none, some (.ref (E (21, j, 0))), none, none, none] [] h _
  refine xV.step rfl ?_
  refine xV.step rfl ?_
  refine xV.gS rfl rfl g_mN_keep_121 mN_latestPromise_ok (Nat.le_of_ble_eq_true rfl) (Nat.le_of_ble_eq_true rfl) rfl (R.lAtW hr hj (hk z)) (fun y => xEd_some (by unfold eKeep; rw [if_neg (fun t => by rw [y] at t; cases t.2)])) (fun y => ?_)
  have hq : q < S.2.2.2 (24, j, 0) 0 := by
    unfold lAt at y
    rw [Bool.and_eq_true] at y
    exact (hk z y.1).2
  refine xV.step rfl ?_
  show xV D N0 mN_keep (d + 9) 15 [some (.ref (E (0, 0, 0))), some (.int c), some (.int k), some (.long s), none, some (.ref (E (21, j, 0))), some (.ref (E (26, j, q))), none, none] [] h _
  refine xV.step rfl ?_
  refine xV.cS rfl rfl g_mN_keep_66 mN_lockOf_ok (Nat.le_of_ble_eq_true rfl) (Nat.le_of_ble_eq_true rfl) c_N_lockOf ?_
  refine xV.step rfl ?_
  show xV D N0 mN_keep (d + 9) 21 [some (.ref (E (0, 0, 0))), some (.int c), some (.int k), some (.long s), none, some (.ref (E (21, j, 0))), some (.ref (E (26, j, q))), some (.long (lk s)), none] [] h _
  have g2 : S.2.1 (26, j, q) 0 = lk s → ∀ b : Bool, decide (S.1 (21, j, 0) 6 = 0 ∧ S.1 (0, 0, 0) 0 < S.1 (26, j, q) 4) = b → xV D N0 mN_keep (d + 9) 65 [some (.ref (E (0, 0, 0))), some (.int c), some (.int k), some (.long s), none, some (.ref (E (21, j, 0))), some (.ref (E (26, j, q))), some (.long (lk s)), none] [.int (xB b)] h (xEd (eKeep S c k s j q) h (fun o u => o = .returned (some (.int (nI (S.2.2.1 (21, j, 0) 5 + 1)))) ∧ Rep E dc (ckeep S j q s) K u ∧ xSz h u)) := by
    intro hlk b hb
    have no : ¬ ((S.1 (21, j, 0) 6 = 0 ∧ S.1 (0, 0, 0) 0 < S.1 (26, j, q) 4) ∧ nI (S.2.2.1 (21, j, 0) 5) < 63 ∧ chas S (lk s) = true) → eKeep S c k s j q = some 10 := fun t => by unfold eKeep; rw [if_pos ⟨z, y⟩, if_pos hlk, if_neg t]
    refine xV.ckS rfl g_mN_keep_74 (Nat.le_of_ble_eq_true rfl) rfl hr (fun t => xEd_some (no (fun t' => of_decide_eq_false (hb.trans t) t'.1))) (fun t => ?_)
    have t1 := of_decide_eq_true (hb.trans t)
    refine xV.step rfl ?_
    refine xV.cV rfl rfl (R.chan hj) rfl g_mN_keep_113 mC_hasRoomForState_ok (Nat.le_of_ble_eq_true rfl) (Nat.le_of_ble_eq_true rfl) (c_C_hasRoomForState (R.chan hj)) ?_
    refine xV.ckS rfl g_mN_keep_74 (Nat.le_of_ble_eq_true rfl) rfl hr (fun t => xEd_some (no (fun t' => of_decide_eq_false t t'.2.1))) (fun t => ?_)
    have t2 := of_decide_eq_true t
    have hl : S.2.2.1 (21, j, 0) 5 < 63 := by
      have := (hO.1 j hj).2.2.1
      rw [show (63 : Int32) = nI 63 from rfl, xn_lt (by omega) (by omega)] at t2
      exact t2
    refine xV.step rfl ?_
    refine xV.get xcl_ok rfl R.net rfl ?_
    refine xV.step rfl ?_
    refine xV.cV rfl rfl R.secr rfl g_mN_keep_70 mS_hasRoomFor_ok (Nat.le_of_ble_eq_true rfl) (Nat.le_of_ble_eq_true rfl) (c_S_hasRoomFor R.secr R.locks hd.1 hd.2) ?_
    refine xV.ckS rfl g_mN_keep_74 (Nat.le_of_ble_eq_true rfl) rfl hr (fun t => xEd_some (no (fun t' => by have := t'.2.2; unfold chas at this; rw [t] at this; cases this))) (fun t3 => ?_)
    refine xV.step rfl ?_
    refine xV.step rfl ?_
    refine xV.step rfl ?_
    refine xV.get xcl_ok rfl (R.prom hj hq) rfl ?_
    obtain ⟨u, e1, e2, e3⟩ := R.endp (D := D) (N0 := N0) (d := d + 7) hj hq hl (nI (S.2.2.1 (26, j, q) 1))
    refine xV.cV rfl rfl (R.chan hj) rfl g_mN_keep_140 mC_endPromise_ok (Nat.le_of_ble_eq_true rfl) (Nat.le_of_ble_eq_true rfl) e1 ?_
    have hp := e2.prom hj hq
    rw [cendp_w26] at hp
    refine xV.step rfl ?_
    refine xV.get xcl_ok rfl e2.net rfl ?_
    refine xV.step rfl ?_
    refine xV.step rfl ?_
    refine xV.step rfl ?_
    refine xV.get xcl_ok rfl hp rfl ?_
    refine xV.step rfl ?_
    refine xV.step rfl ?_
    refine xV.step rfl ?_
    refine xV.get xcl_ok rfl hp rfl ?_
    refine xV.step rfl ?_
    refine xV.step rfl ?_
    refine xV.cV rfl rfl e2.secr rfl g_mN_keep_77 mS_learn_ok (Nat.le_of_ble_eq_true rfl) (Nat.le_of_ble_eq_true rfl) (e2.cLearn (show cdis S from hd) (show chas S (lk s) = true from t3)) ?_
    obtain ⟨r1, r2⟩ := e2.learn (lk s) (((1 : Int32) <<< (nI (S.2.2.1 (26, j, q) 0) &&& 31)) ||| ((1 : Int32) <<< (nI (S.2.2.1 (26, j, q) 1) &&& 31)))
    refine xV.step rfl ?_
    refine xV.get xcl_ok rfl (r1.chan (j := j) (by rw [clearn_z]; exact hj)) rfl ?_
    rw [clearn_la, cendp_la]
    exact xV.iret rfl rfl rfl (xEd_none (by unfold eKeep; rw [if_pos ⟨z, y⟩, if_pos hlk, if_pos ⟨t1, t2, t3⟩]) ⟨rfl, r1, e3.trans r2⟩)
  have g1 : ∀ b : Bool, decide (S.2.1 (26, j, q) 0 = lk s) = b → xV D N0 mN_keep (d + 9) 37 [some (.ref (E (0, 0, 0))), some (.int c), some (.int k), some (.long s), none, some (.ref (E (21, j, 0))), some (.ref (E (26, j, q))), some (.long (lk s)), none] [.int (xB b)] h (xEd (eKeep S c k s j q) h (fun o u => o = .returned (some (.int (nI (S.2.2.1 (21, j, 0) 5 + 1)))) ∧ Rep E dc (ckeep S j q s) K u ∧ xSz h u)) := by
    intro b hb
    refine xV.ckA rfl g_mN_keep_62 (Nat.le_of_ble_eq_true rfl) rfl hr (fun t => xEd_some (by unfold eKeep; rw [if_pos ⟨z, y⟩, if_neg (of_decide_eq_false (hb.trans t))])) (fun t => ?_)
    have hlk := of_decide_eq_true (hb.trans t)
    refine xV.step rfl ?_
    refine xV.get xcl_ok rfl (R.chan hj) rfl ?_
    refine xV.br rfl (fun h1 => ?_) (fun h1 => ?_)
    · refine xV.step rfl ?_
      refine xV.get xcl_ok rfl (R.prom hj hq) rfl ?_
      refine xV.step rfl ?_
      refine xV.get xcl_ok rfl R.net rfl ?_
      refine xV.br rfl (fun h2 => ?_) (fun h2 => ?_)
      · refine xV.step rfl ?_
        exact g2 hlk false (decide_eq_false (fun t => by have := t.2; simp only [Int32.lt_iff_toInt_lt, Int32.le_iff_toInt_le] at *; omega))
      · refine xV.step rfl ?_
        refine xV.step rfl ?_
        exact g2 hlk true (decide_eq_true ⟨h1, by simp only [Int32.lt_iff_toInt_lt, Int32.le_iff_toInt_le] at *; omega⟩)
    · refine xV.step rfl ?_
      exact g2 hlk false (decide_eq_false (fun t => h1 t.1))
  refine xV.step rfl ?_
  refine xV.get xcl_ok rfl (R.prom hj hq) rfl ?_
  refine xV.step rfl ?_
  refine xV.step rfl ?_
  refine xV.br rfl (fun h1 => ?_) (fun h1 => ?_)
  · refine xV.step rfl ?_
    refine xV.step rfl ?_
    exact g1 true (decide_eq_true ((lg_cmp_eq0 _ _).mp h1))
  · refine xV.step rfl ?_
    exact g1 false (decide_eq_false (fun t => h1 ((lg_cmp_eq0 _ _).mpr t)))
/-- the balances of state l paid out -/
def cco (S : CS) (j l : Nat) : Nat → Int32 := upd (upd (S.1 (1, 0, 0)) (S.2.2.1 (21, j, 0) 0) (S.1 (1, 0, 0) (S.2.2.1 (21, j, 0) 0) + S.1 (22, j, 0) l)) (S.2.2.1 (21, j, 0) 1) (upd (S.1 (1, 0, 0)) (S.2.2.1 (21, j, 0) 0) (S.1 (1, 0, 0) (S.2.2.1 (21, j, 0) 0) + S.1 (22, j, 0) l) (S.2.2.1 (21, j, 0) 1) + S.1 (23, j, 0) l)
def cbal (S : CS) (j l : Nat) : CS := cset S (1, 0, 0) (cco S j l) (S.2.1 (1, 0, 0)) (S.2.2.1 (1, 0, 0))
def che (S : CS) (j l : Nat) : Int32 := S.1 (21, j, 0) 7 - (S.1 (22, j, 0) l + S.1 (23, j, 0) l)
def eClose (S : CS) (c : Int32) (j : Nat) : Option Nat := if cAt S c = true then (if S.1 (21, j, 0) 6 = 0 ∧ cpr (fun k => S.1 (26, j, k) 5) (fun k => S.1 (26, j, k) 6) (nI (S.2.2.1 (21, j, 0) 5)) (S.2.2.2 (24, j, 0) 0) = 0 then none else some 10) else some 8
def cclose (S : CS) (j : Nat) : CS := cset (cbal S j (S.2.2.1 (21, j, 0) 5)) (21, j, 0) (upd (upd (S.1 (21, j, 0)) 7 (che S j (S.2.2.1 (21, j, 0) 5))) 6 2) (S.2.1 (21, j, 0)) (S.2.2.1 (21, j, 0))
theorem Rep.bals (R : Rep E dc S K h) {j l : Nat} (hj : j < S.2.2.2 (9, 0, 0) 0) (hO : chOK S j) (hl : l < 64) : xV D N0 mN_payBalances d 0 (xargs 3 [.ref (E (0, 0, 0)), .ref (E (21, j, 0)), .int (nI l)]) [] h (xEq (.returned none) (xput (xput h (E (1, 0, 0)) (.inl (false, .int, 6, .inl (cco S j l)))) (E (21, j, 0)) (.inr (4, chF (nI (S.2.2.1 (21, j, 0) 0)) (nI (S.2.2.1 (21, j, 0) 1)) (E (22, j, 0)) (E (23, j, 0)) (E (24, j, 0)) (nI (S.2.2.1 (21, j, 0) 5)) (S.1 (21, j, 0) 6) (che S j l) (S.1 (21, j, 0) 8) (S.1 (21, j, 0) 9) (S.1 (21, j, 0) 10) (bZ (S.1 (21, j, 0) 11)))))) :=
  c_N_payBalances R.net (R.chan hj) R.coins (R.chan1 hj) (R.chan2 hj) hO.1 hO.2.1 hl (R.ne ⟨hj, rfl⟩ kV_1 (fun z => by cases z)) (R.ne kV_0 kV_1 (by decide)) (R.ne ⟨hj, rfl⟩ kV_1 (fun z => by cases z)) (R.ne ⟨hj, rfl⟩ kV_1 (fun z => by cases z))
theorem c_N_close (R : Rep E dc S K h) (hr : xrm h) (hO : cOK S) {j : Nat} {c : Int32} (hc : cAt S c = true → c = nI j ∧ j < S.2.2.2 (9, 0, 0) 0) : xV D N0 mN_close (d + 8) 0 (xargs 3 [.ref (E (0, 0, 0)), .int c]) [] h (xEd (eClose S c j) h (fun o u => o = .returned none ∧ Rep E dc (cclose S j) K u ∧ xSz h u)) := by
  refine xV.step rfl ?_
  refine xV.step rfl ?_
  refine xV.gV rfl rfl R.net rfl g_mN_close_98 mN_channelAt_ok (Nat.le_of_ble_eq_true rfl) (Nat.le_of_ble_eq_true rfl) rfl (R.chW hr hc) (fun z => xEd_some (by unfold eClose; rw [if_neg (fun y => by rw [z] at y; cases y)])) (fun z => ?_)
  have hj := (hc z).2
  refine xV.step rfl ?_
  show xV D N0 mN_close (d + 8) 6 [some (.ref (E (0, 0, 0))), some (.int c), some (.ref (E (21, j, 0)))] [] h _
  have go : ∀ b : Bool, decide (S.1 (21, j, 0) 6 = 0 ∧ cpr (fun k => S.1 (26, j, k) 5) (fun k => S.1 (26, j, k) 6) (nI (S.2.2.1 (21, j, 0) 5)) (S.2.2.2 (24, j, 0) 0) = 0) = b → xV D N0 mN_close (d + 8) 29 [some (.ref (E (0, 0, 0))), some (.int c), some (.ref (E (21, j, 0)))] [.int (xB b)] h (xEd (eClose S c j) h (fun o u => o = .returned none ∧ Rep E dc (cclose S j) K u ∧ xSz h u)) := by
    intro b hb
    refine xV.ckS rfl g_mN_close_74 (Nat.le_of_ble_eq_true rfl) rfl hr (fun t => xEd_some (by unfold eClose; rw [if_pos z, if_neg (of_decide_eq_false (hb.trans t))])) (fun t => ?_)
    have t1 := of_decide_eq_true (hb.trans t)
    refine xV.step rfl ?_
    refine xV.step rfl ?_
    refine xV.step rfl ?_
    refine xV.get xcl_ok rfl (R.chan hj) rfl ?_
    refine xV.cV rfl rfl R.net rfl g_mN_close_154 mN_payBalances_ok (Nat.le_of_ble_eq_true rfl) (Nat.le_of_ble_eq_true rfl) (R.bals hj (hO.1 j hj) (hO.1 j hj).2.2.1) ?_
    refine xV.step rfl ?_
    refine xV.step rfl ?_
    refine xV.put xcl_ok rfl xput_get rfl rfl rfl (Nat.le_of_ble_eq_true rfl) ?_
    rw [xput_put]
    refine xV.vret rfl rfl (xEd_none (by unfold eClose; rw [if_pos z, if_pos t1]) ⟨rfl, ?_, rfl, rfl, rfl⟩)
    exact (R.put kV_1 (cco S j (S.2.2.1 (21, j, 0) 5)) (S.2.1 (1, 0, 0)) (S.2.2.1 (1, 0, 0))).put (r := (21, j, 0)) ⟨hj, rfl⟩ (upd (upd (S.1 (21, j, 0)) 7 (che S j (S.2.2.1 (21, j, 0) 5))) 6 2) (S.2.1 (21, j, 0)) (S.2.2.1 (21, j, 0))
  refine xV.step rfl ?_
  refine xV.get xcl_ok rfl (R.chan hj) rfl ?_
  refine xV.br rfl (fun h1 => ?_) (fun h1 => ?_)
  · refine xV.step rfl ?_
    refine xV.step rfl ?_
    refine xV.get xcl_ok rfl (R.chan hj) rfl ?_
    refine xV.cV rfl rfl (R.chan hj) rfl g_mN_close_150 mC_promisesIn_ok (Nat.le_of_ble_eq_true rfl) (Nat.le_of_ble_eq_true rfl) (c_C_promisesIn (R.chan hj) (R.lK hj) (hO.1 j hj).2.2.2 (R.aP hj)) ?_
    refine xV.br rfl (fun h2 => ?_) (fun h2 => ?_)
    · refine xV.step rfl ?_
      refine xV.step rfl ?_
      exact go true (decide_eq_true ⟨h1, h2⟩)
    · refine xV.step rfl ?_
      exact go false (decide_eq_false (fun t => h2 t.2))
  · refine xV.step rfl ?_
    exact go false (decide_eq_false (fun t => h1 t.1))
/-- who punishes -/
def cpv (S : CS) (j : Nat) : Nat := if S.1 (21, j, 0) 8 = nI (S.2.2.1 (21, j, 0) 0) then S.2.2.1 (21, j, 0) 1 else S.2.2.1 (21, j, 0) 0
theorem cpv_eq (S : CS) (j : Nat) : (if S.1 (21, j, 0) 8 = nI (S.2.2.1 (21, j, 0) 0) then nI (S.2.2.1 (21, j, 0) 1) else nI (S.2.2.1 (21, j, 0) 0)) = nI (cpv S j) := by
  unfold cpv
  split <;> rfl
theorem cpv_lt {j : Nat} (hO : chOK S j) : cpv S j < 6 := by
  unfold cpv
  split
  · exact hO.2.1
  · exact hO.1
def cmay (S : CS) (j : Nat) : Bool := cpun (S.1 (21, j, 0) 6) (S.1 (21, j, 0) 9) (nI (S.2.2.1 (21, j, 0) 5)) (S.1 (21, j, 0) 10) (S.1 (0, 0, 0) 0)
def cpunc (S : CS) (j : Nat) : CS := cset (cfI S (1, 0, 0) (cpv S j) (S.1 (1, 0, 0) (cpv S j) + S.1 (21, j, 0) 7)) (21, j, 0) (upd (upd (S.1 (21, j, 0)) 7 0) 6 2) (S.2.1 (21, j, 0)) (S.2.2.1 (21, j, 0))
def ePunC (S : CS) (c : Int32) (j : Nat) : Option Nat := if cAt S c = true then (if cmay S j = true then none else some 10) else some 8
theorem Rep.punW (R : Rep E dc S K h) {j : Nat} (hj : j < S.2.2.2 (9, 0, 0) 0) (hO : chOK S j) : xV D N0 mN_payPunisher (d + 2) 0 (xargs 2 [.ref (E (0, 0, 0)), .ref (E (21, j, 0))]) [] h (xEq (.returned none) (xput (xput h (E (1, 0, 0)) (.inl (false, .int, 6, .inl (upd (S.1 (1, 0, 0)) (cpv S j) (S.1 (1, 0, 0) (cpv S j) + S.1 (21, j, 0) 7))))) (E (21, j, 0)) (.inr (4, chF (nI (S.2.2.1 (21, j, 0) 0)) (nI (S.2.2.1 (21, j, 0) 1)) (E (22, j, 0)) (E (23, j, 0)) (E (24, j, 0)) (nI (S.2.2.1 (21, j, 0) 5)) 2 0 (S.1 (21, j, 0) 8) (S.1 (21, j, 0) 9) (S.1 (21, j, 0) 10) (bZ (S.1 (21, j, 0) 11)))))) :=
  c_N_payPunisher R.net (R.chan hj) R.coins (cpv_eq S j) (cpv_lt hO) (R.ne ⟨hj, rfl⟩ kV_1 (fun z => by cases z))
theorem Rep.punc (R : Rep E dc S K h) {j : Nat} (hj : j < S.2.2.2 (9, 0, 0) 0) : Rep E dc (cpunc S j) K (xput (xput h (E (1, 0, 0)) (.inl (false, .int, 6, .inl (upd (S.1 (1, 0, 0)) (cpv S j) (S.1 (1, 0, 0) (cpv S j) + S.1 (21, j, 0) 7))))) (E (21, j, 0)) (.inr (4, chF (nI (S.2.2.1 (21, j, 0) 0)) (nI (S.2.2.1 (21, j, 0) 1)) (E (22, j, 0)) (E (23, j, 0)) (E (24, j, 0)) (nI (S.2.2.1 (21, j, 0) 5)) 2 0 (S.1 (21, j, 0) 8) (S.1 (21, j, 0) 9) (S.1 (21, j, 0) 10) (bZ (S.1 (21, j, 0) 11))))) :=
  (R.put kV_1 (upd (S.1 (1, 0, 0)) (cpv S j) (S.1 (1, 0, 0) (cpv S j) + S.1 (21, j, 0) 7)) (S.2.1 (1, 0, 0)) (S.2.2.1 (1, 0, 0))).put (r := (21, j, 0)) ⟨hj, rfl⟩ (upd (upd (S.1 (21, j, 0)) 7 0) 6 2) (S.2.1 (21, j, 0)) (S.2.2.1 (21, j, 0))
theorem c_N_punish (R : Rep E dc S K h) (hr : xrm h) (hO : cOK S) {j : Nat} {c : Int32} (hc : cAt S c = true → c = nI j ∧ j < S.2.2.2 (9, 0, 0) 0) : xV D N0 mN_punish (d + 8) 0 (xargs 3 [.ref (E (0, 0, 0)), .int c]) [] h (xEd (ePunC S c j) h (fun o u => o = .returned (some (.int ((cpunc S j).1 (1, 0, 0) (cpv S j)))) ∧ Rep E dc (cpunc S j) K u ∧ xSz h u)) := by
  refine xV.step rfl ?_
  refine xV.step rfl ?_
  refine xV.gV rfl rfl R.net rfl g_mN_punish_98 mN_channelAt_ok (Nat.le_of_ble_eq_true rfl) (Nat.le_of_ble_eq_true rfl) rfl (R.chW hr hc) (fun z => xEd_some (by unfold ePunC; rw [if_neg (fun y => by rw [z] at y; cases y)])) (fun z => ?_)
  have hj := (hc z).2
  refine xV.step rfl ?_
  show xV D N0 mN_punish (d + 8) 6 [some (.ref (E (0, 0, 0))), some (.int c), some (.ref (E (21, j, 0)))] [] h _
  refine xV.step rfl ?_
  refine xV.step rfl ?_
  refine xV.get xcl_ok rfl R.net rfl ?_
  refine xV.cV rfl rfl (R.chan hj) rfl g_mN_punish_258 mC_isPunishable_ok (Nat.le_of_ble_eq_true rfl) (Nat.le_of_ble_eq_true rfl) (c_C_isPunishable (R.chan hj)) ?_
  refine xV.ckS rfl g_mN_punish_74 (Nat.le_of_ble_eq_true rfl) rfl hr (fun t => xEd_some (by unfold ePunC; rw [if_pos z, if_neg (by unfold cmay; rw [t]; decide)])) (fun t => ?_)
  refine xV.step rfl ?_
  refine xV.step rfl ?_
  refine xV.cV rfl rfl R.net rfl g_mN_punish_261 mN_payPunisher_ok (Nat.le_of_ble_eq_true rfl) (Nat.le_of_ble_eq_true rfl) (R.punW hj (hO.1 j hj)) ?_
  have R1 := R.punc hj
  refine xV.step rfl ?_
  refine xV.get xcl_ok rfl R1.net rfl ?_
  refine xV.step rfl ?_
  refine xV.cV rfl rfl xput_get rfl g_mN_punish_265 mC_punisher_ok (Nat.le_of_ble_eq_true rfl) (Nat.le_of_ble_eq_true rfl) (c_C_punisher xput_get) ?_
  refine xV.ii (j := cpv S j) rfl R1.coins (cpv_eq S j) (cpv_lt (hO.1 j hj)) (by omega) ?_
  exact xV.iret rfl rfl rfl (xEd_none (by unfold ePunC; rw [if_pos z, if_pos (show cmay S j = true from t)]) ⟨rfl, R1, rfl, rfl, rfl⟩)
end X60
