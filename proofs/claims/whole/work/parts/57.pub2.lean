/- Part 57: secrets; public methods that look at channels, payments, routes. -/
def clearn (S : CS) (k : Int64) (z : Int32) : CS := match mfind (S.2.1 (7, 0, 0)) k (S.2.2.1 (6, 0, 0) 0) with
  | some j => cfI S (8, 0, 0) j (S.1 (8, 0, 0) j ||| z)
  | none => cfN (cfI (cfJ S (7, 0, 0) (S.2.2.1 (6, 0, 0) 0) k) (8, 0, 0) (S.2.2.1 (6, 0, 0) 0) z) (6, 0, 0) 0 (S.2.2.1 (6, 0, 0) 0 + 1)
def cdis (S : CS) : Prop := S.2.2.1 (6, 0, 0) 0 ≤ 24 ∧ ∀ i j, i < S.2.2.1 (6, 0, 0) 0 → j < S.2.2.1 (6, 0, 0) 0 → S.2.1 (7, 0, 0) i = S.2.1 (7, 0, 0) j → i = j
def cknows (S : CS) (n : Int32) (k : Int64) : Bool := sknows (S.2.1 (7, 0, 0)) (S.1 (8, 0, 0)) (S.2.2.1 (6, 0, 0) 0) n k
def chas (S : CS) (k : Int64) : Bool := shas (S.2.1 (7, 0, 0)) (S.2.2.1 (6, 0, 0) 0) k
section X57
variable {D : va_G} {N0 : Nat} {d dc : Nat} {h : XH} {E : RO → Nat} {S : CS} {K : Nat → Option XC}
theorem Rep.learn (R : Rep E dc S K h) (k : Int64) (z : Int32) : Rep E dc (clearn S k z) K (slearn h (E (6, 0, 0)) (E (7, 0, 0)) (E (8, 0, 0)) (S.2.1 (7, 0, 0)) (S.1 (8, 0, 0)) (S.2.2.1 (6, 0, 0) 0) k z) ∧ xSz h (slearn h (E (6, 0, 0)) (E (7, 0, 0)) (E (8, 0, 0)) (S.2.1 (7, 0, 0)) (S.1 (8, 0, 0)) (S.2.2.1 (6, 0, 0) 0) k z) := by
  unfold clearn slearn
  cases mfind (S.2.1 (7, 0, 0)) k (S.2.2.1 (6, 0, 0) 0) with
  | some j => exact ⟨R.put kV_8 _ _ _, rfl, rfl, rfl⟩
  | none =>
    have R1 : Rep E dc (cfJ S (7, 0, 0) (S.2.2.1 (6, 0, 0) 0) k) K _ := R.put kV_7 (S.1 (7, 0, 0)) (vp_updL (S.2.1 (7, 0, 0)) (S.2.2.1 (6, 0, 0) 0) k) (S.2.2.1 (7, 0, 0))
    have R2 : Rep E dc (cfI (cfJ S (7, 0, 0) (S.2.2.1 (6, 0, 0) 0) k) (8, 0, 0) (S.2.2.1 (6, 0, 0) 0) z) K _ := R1.put kV_8 (upd (S.1 (8, 0, 0)) (S.2.2.1 (6, 0, 0) 0) z) (S.2.1 (8, 0, 0)) (S.2.2.1 (8, 0, 0))
    exact ⟨R2.put kV_6 (S.1 (6, 0, 0)) (S.2.1 (6, 0, 0)) (fun i => if i = 0 then S.2.2.1 (6, 0, 0) 0 + 1 else S.2.2.1 (6, 0, 0) i), rfl, rfl, rfl⟩
theorem Rep.cLearn (R : Rep E dc S K h) (hd : cdis S) {k : Int64} {z : Int32} (hr : chas S k = true) : xV D N0 mS_learn (d + 1) 0 (xargs 5 [.ref (E (6, 0, 0)), .long k, .int z]) [] h (xEq (.returned none) (slearn h (E (6, 0, 0)) (E (7, 0, 0)) (E (8, 0, 0)) (S.2.1 (7, 0, 0)) (S.1 (8, 0, 0)) (S.2.2.1 (6, 0, 0) 0) k z)) :=
  c_S_learn R.secr R.locks R.knowers hd.1 hd.2 (R.ne kV_7 kV_6 (by decide)) (R.ne kV_8 kV_6 (by decide)) (R.ne kV_8 kV_7 (by decide)) hr
def eTell (S : CS) (n : Int32) (s : Int64) : Option Nat := if nd n = true then (if chas S (lk s) = true then none else some 10) else some 8
theorem c_N_tell (R : Rep E dc S K h) (hr : xrm h) (hd : cdis S) {n : Int32} {s : Int64} : xV D N0 mN_tell (d + 8) 0 (xargs 6 [.ref (E (0, 0, 0)), .int n, .long s]) [] h (xEd (eTell S n s) h (fun o u => o = .returned (some (.long (lk s))) ∧ Rep E dc (clearn S (lk s) ((1 : Int32) <<< (n &&& 31))) K u ∧ xSz h u)) := by
  refine xV.step rfl ?_
  refine xV.ck rfl g_mN_tell_58 mN_checkNode_ok (Nat.le_of_ble_eq_true rfl) (Nat.le_of_ble_eq_true rfl) rfl (c_N_checkNode hr) (fun z => xEd_some (by unfold eTell; rw [if_neg (by rw [z]; decide)])) (fun z => ?_)
  refine xV.step rfl ?_
  refine xV.cS rfl rfl g_mN_tell_66 mN_lockOf_ok (Nat.le_of_ble_eq_true rfl) (Nat.le_of_ble_eq_true rfl) c_N_lockOf ?_
  refine xV.step rfl ?_
  refine xV.step rfl ?_
  refine xV.get xcl_ok rfl R.net rfl ?_
  refine xV.step rfl ?_
  refine xV.cV rfl rfl R.secr rfl g_mN_tell_70 mS_hasRoomFor_ok (Nat.le_of_ble_eq_true rfl) (Nat.le_of_ble_eq_true rfl) (c_S_hasRoomFor R.secr R.locks hd.1 hd.2) ?_
  refine xV.ckS rfl g_mN_tell_74 (Nat.le_of_ble_eq_true rfl) rfl hr (fun y => xEd_some (by unfold eTell; rw [if_pos z, if_neg (by unfold chas; rw [y]; decide)])) (fun y => ?_)
  refine xV.step rfl ?_
  refine xV.get xcl_ok rfl R.net rfl ?_
  repeat' refine xV.step rfl ?_
  refine xV.cV rfl rfl R.secr rfl g_mN_tell_77 mS_learn_ok (Nat.le_of_ble_eq_true rfl) (Nat.le_of_ble_eq_true rfl) (R.cLearn hd y) ?_
  refine xV.step rfl ?_
  obtain ⟨r1, r2⟩ := R.learn (lk s) ((1 : Int32) <<< (n &&& 31))
  exact xV.lret rfl rfl (xEd_none (by unfold eTell; rw [if_pos z, if_pos (show chas S (lk s) = true from y)]) ⟨rfl, r1, r2⟩)
theorem c_N_knows (R : Rep E dc S K h) (hr : xrm h) (hd : cdis S) {n : Int32} {k : Int64} : xV D N0 mN_knows (d + 8) 0 (xargs 4 [.ref (E (0, 0, 0)), .int n, .long k]) [] h (xEd (eNd n) h (xEq (.returned (some (.int (xB (cknows S n k))))) h)) := by
  refine xV.step rfl ?_
  refine xV.ck rfl g_mN_knows_58 mN_checkNode_ok (Nat.le_of_ble_eq_true rfl) (Nat.le_of_ble_eq_true rfl) rfl (c_N_checkNode hr) (fun z => xEd_some (eNd_f z)) (fun z => ?_)
  refine xV.step rfl ?_
  refine xV.get xcl_ok rfl R.net rfl ?_
  refine xV.step rfl ?_
  refine xV.step rfl ?_
  refine xV.cV rfl rfl R.secr rfl g_mN_knows_81 mS_isKnown_ok (Nat.le_of_ble_eq_true rfl) (Nat.le_of_ble_eq_true rfl) (c_S_isKnown R.secr R.locks R.knowers hd.1 hd.2) ?_
  exact xV.iret rfl rfl (xB_nar _) (xEd_none (eNd_t z) ⟨rfl, rfl⟩)
/-- a channel's number -/
def cAt (S : CS) (n : Int32) : Bool := inr0 n (S.2.2.2 (9, 0, 0) 0)
def pAt (S : CS) (n : Int32) : Bool := inr0 n (S.2.2.2 (10, 0, 0) 0)
def eChan (S : CS) (c w : Int32) (n : Nat) : Option Nat := if cAt S c = true then (if 0 ≤ w ∧ w ≤ nI n then none else some 9) else some 8
def rChanC (S : CS) (j : Nat) (w : Int32) : Int32 := if w = 0 then S.1 (21, j, 0) 6 else if w = 1 then nI (S.2.2.1 (21, j, 0) 5) else if w = 2 then S.1 (21, j, 0) 9 else if w = 3 then S.1 (21, j, 0) 10 else if w = 4 then S.1 (21, j, 0) 7 else nI (S.2.2.2 (24, j, 0) 0)
theorem Rep.chW (R : Rep E dc S K h) (hr : xrm h) {j : Nat} {c : Int32} (hc : cAt S c = true → c = nI j ∧ j < S.2.2.2 (9, 0, 0) 0) : xV D N0 mN_channelAt (d + 7) 0 (xargs 2 [.ref (E (0, 0, 0)), .int c]) [] h (xGt (cAt S c) (.ref (E (21, j, 0))) h) :=
  c_N_channelAt (q := fun i => E (21, i, 0)) R.net R.lC hc (fun z => ⟨_, R.chan (hc z).2⟩) hr
theorem Rep.pyW (R : Rep E dc S K h) (hr : xrm h) {p : Nat} {c : Int32} (hc : pAt S c = true → c = nI p ∧ p < S.2.2.2 (10, 0, 0) 0) : xV D N0 mN_paymentAt (d + 7) 0 (xargs 2 [.ref (E (0, 0, 0)), .int c]) [] h (xGt (pAt S c) (.ref (E (27, p, 0))) h) :=
  c_N_paymentAt (q := fun i => E (27, i, 0)) R.net R.lP hc (fun z => ⟨_, R.paym (hc z).2⟩) hr
theorem c_N_channel (R : Rep E dc S K h) (hr : xrm h) {j : Nat} {c w : Int32} (hc : cAt S c = true → c = nI j ∧ j < S.2.2.2 (9, 0, 0) 0) : xV D N0 mN_channel (d + 8) 0 (xargs 4 [.ref (E (0, 0, 0)), .int c, .int w]) [] h (xEd (eChan S c w 5) h (xEq (.returned (some (.int (rChanC S j w)))) h)) := by
  refine xV.step rfl ?_
  refine xV.step rfl ?_
  refine xV.gV rfl rfl R.net rfl g_mN_channel_98 mN_channelAt_ok (Nat.le_of_ble_eq_true rfl) (Nat.le_of_ble_eq_true rfl) rfl (R.chW hr hc) (fun z => xEd_some (by unfold eChan; rw [if_neg (by rw [z]; decide)])) (fun z => ?_)
  have hj := (hc z).2
  have yes : w = 0 ∨ w = 1 ∨ w = 2 ∨ w = 3 ∨ w = 4 ∨ w = 5 → eChan S c w 5 = none := fun y => by
    unfold eChan
    rw [if_pos z, if_pos]
    rcases y with rfl | rfl | rfl | rfl | rfl | rfl <;> decide
  refine xV.step rfl ?_
  refine xV.step rfl ?_
  show xV D N0 mN_channel (d + 8) 7 [some (.ref (E (0, 0, 0))), some (.int c), some (.int w), some (.ref (E (21, j, 0)))] [.int w] h _
  by_cases w0 : w = 0
  · subst w0
    refine xV.tIn (tgt := 44) rfl (by decide) (by decide) rfl rfl ?_
    refine xV.step rfl ?_
    refine xV.get xcl_ok rfl (R.chan hj) rfl ?_
    exact xV.iret rfl rfl rfl (xEd_none (yes (by simp)) ⟨rfl, rfl⟩)
  by_cases w1 : w = 1
  · subst w1
    refine xV.tIn (tgt := 49) rfl (by decide) (by decide) rfl rfl ?_
    refine xV.step rfl ?_
    refine xV.get xcl_ok rfl (R.chan hj) rfl ?_
    exact xV.iret rfl rfl rfl (xEd_none (yes (by simp)) ⟨rfl, rfl⟩)
  by_cases w2 : w = 2
  · subst w2
    refine xV.tIn (tgt := 54) rfl (by decide) (by decide) rfl rfl ?_
    refine xV.step rfl ?_
    refine xV.get xcl_ok rfl (R.chan hj) rfl ?_
    exact xV.iret rfl rfl rfl (xEd_none (yes (by simp)) ⟨rfl, rfl⟩)
  by_cases w3 : w = 3
  · subst w3
    refine xV.tIn (tgt := 59) rfl (by decide) (by decide) rfl rfl ?_
    refine xV.step rfl ?_
    refine xV.get xcl_ok rfl (R.chan hj) rfl ?_
    exact xV.iret rfl rfl rfl (xEd_none (yes (by simp)) ⟨rfl, rfl⟩)
  by_cases w4 : w = 4
  · subst w4
    refine xV.tIn (tgt := 64) rfl (by decide) (by decide) rfl rfl ?_
    refine xV.step rfl ?_
    refine xV.get xcl_ok rfl (R.chan hj) rfl ?_
    exact xV.iret rfl rfl rfl (xEd_none (yes (by simp)) ⟨rfl, rfl⟩)
  by_cases w5 : w = 5
  · subst w5
    refine xV.tIn (tgt := 69) rfl (by decide) (by decide) rfl rfl ?_
    refine xV.step rfl ?_
    refine xV.get xcl_ok rfl (R.chan hj) rfl ?_
    refine xV.lsz (R.lK hj) rfl g_mN_channel_85 (Nat.le_of_ble_eq_true rfl) ?_
    exact xV.iret rfl rfl rfl (xEd_none (yes (by simp)) ⟨rfl, rfl⟩)
  have ho := sw_out (w := w) (n := 6) (by omega) (fun k hk => by
    match k, hk with
    | 0, _ => exact w0
    | 1, _ => exact w1
    | 2, _ => exact w2
    | 3, _ => exact w3
    | 4, _ => exact w4
    | 5, _ => exact w5)
  refine xV.tOut (tgt := 77) rfl ho rfl ?_
  refine xV.throw (names := xsup) (ci := 9) (text := "no such what") rfl rfl (Or.inl rfl) rfl rfl rfl (by decide +kernel) (by decide +kernel) (xin_W lnk_ia _ List.mem_cons_self) (xin_W lnk_ia _ (List.mem_cons_of_mem _ List.mem_cons_self)) (xin_W thr_ia) rfl (by decide) rfl (by simp [xsup]) (Nat.le_of_ble_eq_true rfl) hr.1 hr.2 (xEd_some ?_)
  unfold eChan
  rw [if_pos z, if_neg]
  intro y
  rw [Int32.le_iff_toInt_le, Int32.le_iff_toInt_le, xn_toInt (by omega)] at y
  have : (0 : Int32).toInt = 0 := rfl
  omega
end X57
