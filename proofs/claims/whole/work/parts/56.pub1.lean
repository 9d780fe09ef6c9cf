/- Part 56: public methods that look, and those on nodes and secrets. -/
section W56
variable {D : va_G} {N0 : Nat} {M : XM} {d pc : Nat} {lv : XL} {h : XH} {Q : Outcome → XH → Prop}
theorem xV.ckI {idx nx : Nat} {b : Bool} {rest : List Value} (hq : xon M pc = some (.invokestatic idx, nx)) (hw : xcs M mN_checkIndex idx 1) (hcat : (rest.map fun v => v.category).sum + (mN_checkIndex.2.2.1 + 11) ≤ 64) (hout : (tableOf M.2.2.2.2.1).all (fun x => !covers x pc) = true) (hr : xrm h) (k2 : b = false → Q (.threw h.1) (xnew h (.inr (8, [])) 6)) (k1 : b = true → xV D N0 M (d + 7) nx lv rest h Q) : xV D N0 M (d + 7) pc lv (.int (xB b) :: rest) h Q :=
  xV.ck hq hw mN_checkIndex_ok (Nat.le_of_ble_eq_true rfl) hcat hout (c_N_checkIndex hr) k2 k1
theorem xV.ckA {idx nx : Nat} {b : Bool} {rest : List Value} (hq : xon M pc = some (.invokestatic idx, nx)) (hw : xcs M mN_checkArgument idx 1) (hcat : (rest.map fun v => v.category).sum + (mN_checkArgument.2.2.1 + 11) ≤ 64) (hout : (tableOf M.2.2.2.2.1).all (fun x => !covers x pc) = true) (hr : xrm h) (k2 : b = false → Q (.threw h.1) (xnew h (.inr (9, [])) 6)) (k1 : b = true → xV D N0 M (d + 7) nx lv rest h Q) : xV D N0 M (d + 7) pc lv (.int (xB b) :: rest) h Q :=
  xV.ck hq hw mN_checkArgument_ok (Nat.le_of_ble_eq_true rfl) hcat hout (c_N_checkArgument hr) k2 k1
theorem xV.ckS {idx nx : Nat} {b : Bool} {rest : List Value} (hq : xon M pc = some (.invokestatic idx, nx)) (hw : xcs M mN_checkState idx 1) (hcat : (rest.map fun v => v.category).sum + (mN_checkState.2.2.1 + 11) ≤ 64) (hout : (tableOf M.2.2.2.2.1).all (fun x => !covers x pc) = true) (hr : xrm h) (k2 : b = false → Q (.threw h.1) (xnew h (.inr (10, [])) 6)) (k1 : b = true → xV D N0 M (d + 7) nx lv rest h Q) : xV D N0 M (d + 7) pc lv (.int (xB b) :: rest) h Q :=
  xV.ck hq hw mN_checkState_ok (Nat.le_of_ble_eq_true rfl) hcat hout (c_N_checkState hr) k2 k1
/-- a look-up that gives an object or throws -/
theorem xV.gV {M2 : XM} {idx nx n b ci : Nat} {t : Bool} {v : Value} {q : vw_C} {fs as rest st : List Value} (hq : xon M pc = some (.invokevirtual idx, nx)) (hst : xsp (n + 1) st [] = some (.ref b :: as, rest)) (hb : xget h b = some (.inr (ci, fs))) (hc : xcl[ci]? = some q) (hw : xcv q.1 M M2 idx n) (hok2 : xOK M2 = true) (hsz : (lg_sl (.ref b :: as)).length ≤ M2.2.2.1) (hcat : (rest.map fun v => v.category).sum + (M2.2.2.1 + 11) ≤ 64)
    (hout : (tableOf M.2.2.2.2.1).all (fun x => !covers x pc) = true) (hcon : xV D N0 M2 d 0 (xargs M2.2.2.1 (.ref b :: as)) [] h (xGt t v h)) (k2 : t = false → Q (.threw h.1) (xnew h (.inr (8, [])) 6)) (k1 : t = true → xV D N0 M (d + 1) nx lv (v :: rest) h Q) : xV D N0 M (d + 1) pc lv st h Q :=
  xV.callV hq hst hb hc hw hok2 hsz hcat hcon (fun w u hz => by
    rcases hz with ⟨hb2, e, rfl⟩ | ⟨_, e, _⟩
    · cases e; exact k1 hb2
    · cases e) (fun a u hz => by
    rcases hz with ⟨_, e, _⟩ | ⟨hb2, e, rfl⟩
    · cases e
    · cases e; exact xT.out hout (k2 hb2))
theorem xV.gS {M2 : XM} {idx nx n : Nat} {t : Bool} {v : Value} {as rest st : List Value} (hq : xon M pc = some (.invokestatic idx, nx)) (hst : xsp n st [] = some (as, rest)) (hw : xcs M M2 idx n) (hok2 : xOK M2 = true) (hsz : (lg_sl as).length ≤ M2.2.2.1) (hcat : (rest.map fun v => v.category).sum + (M2.2.2.1 + 11) ≤ 64)
    (hout : (tableOf M.2.2.2.2.1).all (fun x => !covers x pc) = true) (hcon : xV D N0 M2 d 0 (xargs M2.2.2.1 as) [] h (xGt t v h)) (k2 : t = false → Q (.threw h.1) (xnew h (.inr (8, [])) 6)) (k1 : t = true → xV D N0 M (d + 1) nx lv (v :: rest) h Q) : xV D N0 M (d + 1) pc lv st h Q :=
  xV.callS hq hst hw hok2 hsz hcat hcon (fun w u hz => by
    rcases hz with ⟨hb2, e, rfl⟩ | ⟨_, e, _⟩
    · cases e; exact k1 hb2
    · cases e) (fun a u hz => by
    rcases hz with ⟨_, e, _⟩ | ⟨hb2, e, rfl⟩
    · cases e
    · cases e; exact xT.out hout (k2 hb2))
end W56
theorem sw_out {w : Int32} {n : Nat} (hn : n ≤ 1024) (hw : ∀ k, k < n → w ≠ nI k) : w.toInt < 0 ∨ (n : Int) - 1 < w.toInt := by
  by_cases h1 : w.toInt < 0
  · exact Or.inl h1
  by_cases h2 : (n : Int) - 1 < w.toInt
  · exact Or.inr h2
  exfalso
  refine hw w.toInt.toNat (by omega) ?_
  rw [← Int32.toInt_inj, xn_toInt (by omega)]
  omega
def eNd (n : Int32) : Option Nat := if nd n = true then none else some 8
theorem eNd_t {n : Int32} (h : nd n = true) : eNd n = none := by unfold eNd; rw [if_pos h]
theorem eNd_f {n : Int32} (h : nd n = false) : eNd n = some 8 := by unfold eNd; rw [if_neg (by rw [h]; decide)]
section X56
variable {D : va_G} {N0 : Nat} {d dc : Nat} {h : XH} {E : RO → Nat} {S : CS} {K : Nat → Option XC}
theorem c_N_height (R : Rep E dc S K h) : xV D N0 mN_height d 0 (xargs 1 [.ref (E (0, 0, 0))]) [] h (xEq (.returned (some (.int (S.1 (0, 0, 0) 0)))) h) := by
  refine xV.step rfl ?_
  refine xV.get xcl_ok rfl R.net rfl ?_
  exact xV.iret rfl rfl rfl ⟨rfl, rfl⟩
theorem c_N_lock {a : Nat} {s : Int64} : xV D N0 mN_lock (d + 1) 0 (xargs 3 [.ref a, .long s]) [] h (xEq (.returned (some (.long (lk s)))) h) := by
  refine xV.step rfl ?_
  refine xV.cS rfl rfl g_mN_lock_66 mN_lockOf_ok (Nat.le_of_ble_eq_true rfl) (Nat.le_of_ble_eq_true rfl) c_N_lockOf ?_
  exact xV.lret rfl rfl ⟨rfl, rfl⟩
theorem c_N_channels (R : Rep E dc S K h) : xV D N0 mN_channels (d + 1) 0 (xargs 1 [.ref (E (0, 0, 0))]) [] h (xEq (.returned (some (.int (nI (S.2.2.2 (9, 0, 0) 0))))) h) := by
  refine xV.step rfl ?_
  refine xV.get xcl_ok rfl R.net rfl ?_
  refine xV.lsz R.lC rfl g_mN_channels_85 (Nat.le_of_ble_eq_true rfl) ?_
  exact xV.iret rfl rfl rfl ⟨rfl, rfl⟩
theorem c_N_coins (R : Rep E dc S K h) (hr : xrm h) {j : Nat} {n : Int32} (hn : nd n = true → n = nI j ∧ j < 6) : xV D N0 mN_coins (d + 8) 0 (xargs 2 [.ref (E (0, 0, 0)), .int n]) [] h (xEd (eNd n) h (xEq (.returned (some (.int (S.1 (1, 0, 0) j)))) h)) := by
  refine xV.step rfl ?_
  refine xV.ck rfl g_mN_coins_58 mN_checkNode_ok (Nat.le_of_ble_eq_true rfl) (Nat.le_of_ble_eq_true rfl) rfl (c_N_checkNode hr) (fun z => xEd_some (eNd_f z)) (fun z => ?_)
  obtain ⟨rfl, hj⟩ := hn z
  refine xV.step rfl ?_
  refine xV.get xcl_ok rfl R.net rfl ?_
  refine xV.step rfl ?_
  refine xV.ii (j := j) rfl R.coins rfl hj (by omega) ?_
  exact xV.iret rfl rfl rfl (xEd_none (eNd_t z) ⟨rfl, rfl⟩)
theorem c_N_watch (R : Rep E dc S K h) (hr : xrm h) {j : Nat} {n x : Int32} (hn : nd n = true → n = nI j ∧ j < 6) (hx : narrow .boolean (.int x) = .int x) : xV D N0 mN_watch (d + 8) 0 (xargs 3 [.ref (E (0, 0, 0)), .int n, .int x]) [] h (xEd (eNd n) h (fun o u => o = .returned none ∧ Rep E dc (cfI S (5, 0, 0) j x) K u ∧ xSz h u)) := by
  refine xV.step rfl ?_
  refine xV.ck rfl g_mN_watch_58 mN_checkNode_ok (Nat.le_of_ble_eq_true rfl) (Nat.le_of_ble_eq_true rfl) rfl (c_N_checkNode hr) (fun z => xEd_some (eNd_f z)) (fun z => ?_)
  obtain ⟨rfl, hj⟩ := hn z
  refine xV.step rfl ?_
  refine xV.get xcl_ok rfl R.net rfl ?_
  refine xV.step rfl ?_
  refine xV.step rfl ?_
  refine xV.zast rfl R.watch (xn_in hj (by omega)) hx ?_
  rw [xn_clamp (by omega)]
  exact xV.vret rfl rfl (xEd_none (eNd_t z) ⟨rfl, R.put kV_5 _ _ _, rfl, rfl, rfl⟩)
def eFees (n b q e : Int32) : Option Nat := if nd n = true then (if (0 ≤ b ∧ b ≤ 10000) ∧ (0 ≤ q ∧ q ≤ 1000000) ∧ (1 ≤ e ∧ e ≤ 100) then none else some 9) else some 8
theorem c_N_fees (R : Rep E dc S K h) (hr : xrm h) {j : Nat} {n b q e : Int32} (hn : nd n = true → n = nI j ∧ j < 6) : xV D N0 mN_fees (d + 8) 0 (xargs 5 [.ref (E (0, 0, 0)), .int n, .int b, .int q, .int e]) [] h (xEd (eFees n b q e) h (fun o u => o = .returned none ∧ Rep E dc (cfI (cfI (cfI S (2, 0, 0) j b) (3, 0, 0) j q) (4, 0, 0) j e) K u ∧ xSz h u)) := by
  refine xV.step rfl ?_
  refine xV.ck rfl g_mN_fees_58 mN_checkNode_ok (Nat.le_of_ble_eq_true rfl) (Nat.le_of_ble_eq_true rfl) rfl (c_N_checkNode hr) (fun z => xEd_some (by unfold eFees; rw [if_neg (by rw [z]; decide)])) (fun z => ?_)
  obtain ⟨rfl, hj⟩ := hn z
  have no : ¬ ((0 ≤ b ∧ b ≤ 10000) ∧ (0 ≤ q ∧ q ≤ 1000000) ∧ (1 ≤ e ∧ e ≤ 100)) → eFees (nI j) b q e = some 9 := fun y => by unfold eFees; rw [if_pos z, if_neg y]
  have k3 : (0 ≤ b ∧ b ≤ 10000) → (0 ≤ q ∧ q ≤ 1000000) → ∀ t : Bool, decide (1 ≤ e ∧ e ≤ 100) = t → xV D N0 mN_fees (d + 8) 59 (xargs 5 [.ref (E (0, 0, 0)), .int (nI j), .int b, .int q, .int e]) [.int (xB t)] h (xEd (eFees (nI j) b q e) h (fun o u => o = .returned none ∧ Rep E dc (cfI (cfI (cfI S (2, 0, 0) j b) (3, 0, 0) j q) (4, 0, 0) j e) K u ∧ xSz h u)) := by
    intro y1 y2 t ht
    refine xV.ckA rfl g_mN_fees_62 (Nat.le_of_ble_eq_true rfl) rfl hr (fun y => xEd_some (no (fun w => of_decide_eq_false (ht.trans y) w.2.2))) (fun y => ?_)
    have y3 := of_decide_eq_true (ht.trans y)
    refine xV.step rfl ?_
    refine xV.get xcl_ok rfl R.net rfl ?_
    refine xV.step rfl ?_
    refine xV.step rfl ?_
    refine xV.is (j := j) rfl R.base rfl hj (by omega) ?_
    have R1 : Rep E dc (cfI S (2, 0, 0) j b) K (xput h (E (2, 0, 0)) (.inl (false, .int, 6, .inl (upd (S.1 (2, 0, 0)) j b)))) := R.put kV_2 _ _ _
    refine xV.step rfl ?_
    refine xV.get xcl_ok rfl R1.net rfl ?_
    refine xV.step rfl ?_
    refine xV.step rfl ?_
    refine xV.is (j := j) rfl R1.parts rfl hj (by omega) ?_
    have R2 : Rep E dc (cfI (cfI S (2, 0, 0) j b) (3, 0, 0) j q) K _ := R1.put kV_3 (upd ((cfI S (2, 0, 0) j b).1 (3, 0, 0)) j q) _ _
    refine xV.step rfl ?_
    refine xV.get xcl_ok rfl R2.net rfl ?_
    refine xV.step rfl ?_
    refine xV.step rfl ?_
    refine xV.is (j := j) rfl R2.delta rfl hj (by omega) ?_
    exact xV.vret rfl rfl (xEd_none (by unfold eFees; rw [if_pos z, if_pos ⟨y1, y2, y3⟩]) ⟨rfl, R2.put kV_4 _ _ _, rfl, rfl, rfl⟩)
  have k2 : (0 ≤ b ∧ b ≤ 10000) → ∀ t : Bool, decide (0 ≤ q ∧ q ≤ 1000000) = t → xV D N0 mN_fees (d + 8) 38 (xargs 5 [.ref (E (0, 0, 0)), .int (nI j), .int b, .int q, .int e]) [.int (xB t)] h (xEd (eFees (nI j) b q e) h (fun o u => o = .returned none ∧ Rep E dc (cfI (cfI (cfI S (2, 0, 0) j b) (3, 0, 0) j q) (4, 0, 0) j e) K u ∧ xSz h u)) := by
    intro y1 t ht
    refine xV.ckA rfl g_mN_fees_62 (Nat.le_of_ble_eq_true rfl) rfl hr (fun y => xEd_some (no (fun w => of_decide_eq_false (ht.trans y) w.2.1))) (fun y => ?_)
    have y2 := of_decide_eq_true (ht.trans y)
    refine xV.step rfl ?_
    refine xV.step rfl ?_
    refine xV.br rfl (fun h1 => ?_) (fun h1 => ?_)
    · refine xV.step rfl ?_
      exact k3 y1 y2 false (decide_eq_false (fun w => by have := w.1; simp only [Int32.lt_iff_toInt_lt, Int32.le_iff_toInt_le] at *; omega))
    refine xV.step rfl ?_
    refine xV.step rfl ?_
    refine xV.br rfl (fun h2 => ?_) (fun h2 => ?_)
    · refine xV.step rfl ?_
      exact k3 y1 y2 false (decide_eq_false (fun w => by have := w.2; simp only [Int32.lt_iff_toInt_lt, Int32.le_iff_toInt_le] at *; omega))
    · refine xV.step rfl ?_
      refine xV.step rfl ?_
      exact k3 y1 y2 true (decide_eq_true ⟨by simp only [Int32.lt_iff_toInt_lt, Int32.le_iff_toInt_le] at *; omega, by simp only [Int32.lt_iff_toInt_lt, Int32.le_iff_toInt_le] at *; omega⟩)
  have k1 : ∀ t : Bool, decide (0 ≤ b ∧ b ≤ 10000) = t → xV D N0 mN_fees (d + 8) 20 (xargs 5 [.ref (E (0, 0, 0)), .int (nI j), .int b, .int q, .int e]) [.int (xB t)] h (xEd (eFees (nI j) b q e) h (fun o u => o = .returned none ∧ Rep E dc (cfI (cfI (cfI S (2, 0, 0) j b) (3, 0, 0) j q) (4, 0, 0) j e) K u ∧ xSz h u)) := by
    intro t ht
    refine xV.ckA rfl g_mN_fees_62 (Nat.le_of_ble_eq_true rfl) rfl hr (fun y => xEd_some (no (fun w => of_decide_eq_false (ht.trans y) w.1))) (fun y => ?_)
    have y1 := of_decide_eq_true (ht.trans y)
    refine xV.step rfl ?_
    refine xV.br rfl (fun h1 => ?_) (fun h1 => ?_)
    · refine xV.step rfl ?_
      exact k2 y1 false (decide_eq_false (fun w => by have := w.1; simp only [Int32.lt_iff_toInt_lt, Int32.le_iff_toInt_le] at *; omega))
    refine xV.step rfl ?_
    refine xV.step rfl ?_
    refine xV.br rfl (fun h2 => ?_) (fun h2 => ?_)
    · refine xV.step rfl ?_
      exact k2 y1 false (decide_eq_false (fun w => by have := w.2; simp only [Int32.lt_iff_toInt_lt, Int32.le_iff_toInt_le] at *; omega))
    · refine xV.step rfl ?_
      refine xV.step rfl ?_
      exact k2 y1 true (decide_eq_true ⟨by simp only [Int32.lt_iff_toInt_lt, Int32.le_iff_toInt_le] at *; omega, by simp only [Int32.lt_iff_toInt_lt, Int32.le_iff_toInt_le] at *; omega⟩)
  refine xV.step rfl ?_
  refine xV.br rfl (fun h1 => ?_) (fun h1 => ?_)
  · refine xV.step rfl ?_
    exact k1 false (decide_eq_false (fun w => by have := w.1; simp only [Int32.lt_iff_toInt_lt, Int32.le_iff_toInt_le] at *; omega))
  refine xV.step rfl ?_
  refine xV.step rfl ?_
  refine xV.br rfl (fun h2 => ?_) (fun h2 => ?_)
  · refine xV.step rfl ?_
    exact k1 false (decide_eq_false (fun w => by have := w.2; simp only [Int32.lt_iff_toInt_lt, Int32.le_iff_toInt_le] at *; omega))
  · refine xV.step rfl ?_
    refine xV.step rfl ?_
    exact k1 true (decide_eq_true ⟨by simp only [Int32.lt_iff_toInt_lt, Int32.le_iff_toInt_le] at *; omega, by simp only [Int32.lt_iff_toInt_lt, Int32.le_iff_toInt_le] at *; omega⟩)
end X56
