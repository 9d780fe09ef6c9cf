/- Part 18: the model's arrays by natural indices; its helpers. -/
theorem xn_add (a b : Nat) : nI a + nI b = nI (a + b) := (Int32.ofNat_add a b).symm
theorem xn_mul (a b : Nat) : nI a * nI b = nI (a * b) := (Int32.ofNat_mul a b).symm
theorem xn_ix (j l : Nat) : (64 : Int32) * nI j + nI l = nI (64 * j + l) := by
  rw [show (64 : Int32) = nI 64 from rfl, xn_mul, xn_add]
theorem xn_cell (j l s : Nat) : (2 : Int32) * ((64 : Int32) * nI j + nI l) + nI s = nI (2 * (64 * j + l) + s) := by
  rw [xn_ix, show (2 : Int32) = nI 2 from rfl, xn_mul, xn_add]
section X18
variable {D : va_G} {N0 : Nat} {M : XM} {d pc m : Nat} {lv : XL} {st : List Value} {h : XH} {A : MS} {Q : Outcome → XH → Prop}
theorem xbnd {k n : Nat} (hb : (Nat.ble k 41 && Nat.ble n 1024) = true) : k ≤ 41 ∧ n < 2 ^ 31 := by
  rw [Bool.and_eq_true] at hb
  have h1 := Nat.le_of_ble_eq_true hb.1
  have h2 := Nat.le_of_ble_eq_true hb.2
  omega
theorem xV.mi {k nx n j : Nat} {r : List Value} (hq : xon M pc = some (.iaload, nx)) (hc : mcell m A k = .inl (false, .int, n, .inl (A.2.1 k))) (hb : (Nat.ble k 41 && Nat.ble n 1024) = true) (hj : j < n) (kk : xV D N0 M d nx lv (.int (A.2.1 k j) :: r) (hm m A h) Q) : xV D N0 M d pc lv (.int (nI j) :: .ref (m + k) :: r) (hm m A h) Q := by
  obtain ⟨h1, h2⟩ := xbnd hb
  refine xV.mild hq hc h1 (xn_in hj h2) ?_
  rw [xn_clamp (by omega)]
  exact kk
theorem xV.mz {k nx n j : Nat} {r : List Value} (hq : xon M pc = some (.baload, nx)) (hc : mcell m A k = .inl (false, .boolean, n, .inl (A.2.1 k))) (hb : (Nat.ble k 41 && Nat.ble n 1024) = true) (hj : j < n) (kk : xV D N0 M d nx lv (.int (A.2.1 k j) :: r) (hm m A h) Q) : xV D N0 M d pc lv (.int (nI j) :: .ref (m + k) :: r) (hm m A h) Q := by
  obtain ⟨h1, h2⟩ := xbnd hb
  refine xV.mzld hq hc h1 (xn_in hj h2) ?_
  rw [xn_clamp (by omega)]
  exact kk
theorem xV.mj {k nx n j : Nat} {r : List Value} (hq : xon M pc = some (.laload, nx)) (hc : mcell m A k = .inl (false, .long, n, .inr (.inl (A.2.2 k)))) (hb : (Nat.ble k 41 && Nat.ble n 1024) = true) (hj : j < n) (kk : xV D N0 M d nx lv (.long (A.2.2 k j) :: r) (hm m A h) Q) : xV D N0 M d pc lv (.int (nI j) :: .ref (m + k) :: r) (hm m A h) Q := by
  obtain ⟨h1, h2⟩ := xbnd hb
  refine xV.mjld hq hc h1 (xn_in hj h2) ?_
  rw [xn_clamp (by omega)]
  exact kk
theorem xV.si {k nx n j : Nat} {x : Int32} {r : List Value} (hq : xon M pc = some (.iastore, nx)) (hc : mcell m A k = .inl (false, .int, n, .inl (A.2.1 k))) (hc' : mcell m (mI A k j x) k = .inl (false, .int, n, .inl (upd (A.2.1 k) j x))) (hb : (Nat.ble k 41 && Nat.ble n 1024) = true) (hj : j < n) (kk : xV D N0 M d nx lv r (hm m (mI A k j x) h) Q) : xV D N0 M d pc lv (.int x :: .int (nI j) :: .ref (m + k) :: r) (hm m A h) Q := by
  obtain ⟨h1, h2⟩ := xbnd hb
  have e : (nI j).toNatClampNeg = j := xn_clamp (by omega)
  exact xV.mist hq hc (by rw [e]; exact hc') h1 (xn_in hj h2) (by rw [e]; exact kk)
theorem xV.sz {k nx n j : Nat} {x : Int32} {r : List Value} (hq : xon M pc = some (.bastore, nx)) (hc : mcell m A k = .inl (false, .boolean, n, .inl (A.2.1 k))) (hc' : mcell m (mI A k j x) k = .inl (false, .boolean, n, .inl (upd (A.2.1 k) j x))) (hb : (Nat.ble k 41 && Nat.ble n 1024) = true) (hj : j < n) (hx : narrow .boolean (.int x) = .int x) (kk : xV D N0 M d nx lv r (hm m (mI A k j x) h) Q) : xV D N0 M d pc lv (.int x :: .int (nI j) :: .ref (m + k) :: r) (hm m A h) Q := by
  obtain ⟨h1, h2⟩ := xbnd hb
  have e : (nI j).toNatClampNeg = j := xn_clamp (by omega)
  exact xV.mzst hq hc (by rw [e]; exact hc') h1 (xn_in hj h2) hx (by rw [e]; exact kk)
theorem xV.sj {k nx n j : Nat} {x : Int64} {r : List Value} (hq : xon M pc = some (.lastore, nx)) (hc : mcell m A k = .inl (false, .long, n, .inr (.inl (A.2.2 k)))) (hc' : mcell m (mJ A k j x) k = .inl (false, .long, n, .inr (.inl (vp_updL (A.2.2 k) j x)))) (hb : (Nat.ble k 41 && Nat.ble n 1024) = true) (hj : j < n) (kk : xV D N0 M d nx lv r (hm m (mJ A k j x) h) Q) : xV D N0 M d pc lv (.long x :: .int (nI j) :: .ref (m + k) :: r) (hm m A h) Q := by
  obtain ⟨h1, h2⟩ := xbnd hb
  have e : (nI j).toNatClampNeg = j := xn_clamp (by omega)
  exact xV.mjst hq hc (by rw [e]; exact hc') h1 (xn_in hj h2) (by rw [e]; exact kk)
end X18
section Y18
variable {D : va_G} {N0 : Nat} {d m : Nat} {h : XH} {A : MS}
def mside (A : MS) (j : Nat) (n : Int32) : Int32 := if n = A.2.1 6 j then 0 else if n = A.2.1 7 j then 1 else -1
def mnode (A : MS) (j : Nat) (s : Int32) : Int32 := if s = 0 then A.2.1 6 j else A.2.1 7 j
theorem c_M_sideOf {j : Nat} (hj : j < 8) {n : Int32} : xV D N0 mM_sideOf d 0 (xargs 3 [.ref m, .int (nI j), .int n]) [] (hm m A h) (xEq (.returned (some (.int (mside A j n)))) (hm m A h)) := by
  unfold mside
  repeat' first
    | refine xV.step rfl ?_
    | refine xV.mget rfl rfl ?_
    | refine xV.mi rfl rfl rfl hj ?_
    | refine xV.br rfl (fun _ => ?_) (fun _ => ?_)
  all_goals refine xV.iret rfl rfl rfl ⟨?_, rfl⟩
  all_goals simp_all
theorem c_M_nodeOf {j : Nat} (hj : j < 8) {s : Int32} : xV D N0 mM_nodeOf d 0 (xargs 3 [.ref m, .int (nI j), .int s]) [] (hm m A h) (xEq (.returned (some (.int (mnode A j s)))) (hm m A h)) := by
  unfold mnode
  repeat' first
    | refine xV.step rfl ?_
    | refine xV.mget rfl rfl ?_
    | refine xV.mi rfl rfl rfl hj ?_
    | refine xV.br rfl (fun _ => ?_) (fun _ => ?_)
  all_goals refine xV.iret rfl rfl rfl ⟨?_, rfl⟩
  all_goals simp_all
theorem c_M_hasState {j : Nat} (hj : j < 8) : xV D N0 mM_hasState d 0 (xargs 2 [.ref m, .int (nI j)]) [] (hm m A h) (xEq (.returned (some (.int (xB (decide (A.2.1 9 j + 1 < 64)))))) (hm m A h)) := by
  repeat' first
    | refine xV.step rfl ?_
    | refine xV.mget rfl rfl ?_
    | refine xV.mi rfl rfl rfl hj ?_
    | refine xV.br rfl (fun _ => ?_) (fun _ => ?_)
  all_goals refine xV.iret rfl rfl rfl ⟨?_, rfl⟩
  all_goals first
    | exact xB1 (by simp only [Int32.lt_iff_toInt_lt, Int32.le_iff_toInt_le] at *; omega)
    | exact xB0 (by simp only [Int32.lt_iff_toInt_lt, Int32.le_iff_toInt_le] at *; omega)
theorem c_M_cell {a b c : Int32} : xV D N0 mM_cell d 0 (xargs 3 [.int a, .int b, .int c]) [] h (xEq (.returned (some (.int (2 * (64 * a + b) + c)))) h) := by
  repeat' refine xV.step rfl ?_
  exact xV.iret rfl rfl rfl ⟨rfl, rfl⟩
theorem c_M_balance {j l s : Nat} (hj : j < 8) (hl : A.2.1 9 j = nI l) (hl2 : l < 64) (hs : s < 2) : xV D N0 mM_balance (d + 1) 0 (xargs 3 [.ref m, .int (nI j), .int (nI s)]) [] (hm m A h) (xEq (.returned (some (.int (A.2.1 10 (2 * (64 * j + l) + s))))) (hm m A h)) := by
  repeat' first
    | refine xV.step rfl ?_
    | refine xV.mget rfl rfl ?_
    | refine xV.mi rfl rfl rfl hj ?_
  rw [hl]
  repeat' refine xV.step rfl ?_
  refine xV.cS rfl rfl g_mM_balance_178 mM_cell_ok (Nat.le_of_ble_eq_true rfl) (Nat.le_of_ble_eq_true rfl) c_M_cell ?_
  rw [xn_cell]
  refine xV.mi (n := 1024) rfl rfl rfl (by omega) ?_
  exact xV.iret rfl rfl rfl ⟨rfl, rfl⟩
theorem c_M_now {j l : Nat} (hj : j < 8) (hl : A.2.1 9 j = nI l) (hl2 : l < 64) : xV D N0 mM_now d 0 (xargs 2 [.ref m, .int (nI j)]) [] (hm m A h) (xEq (.returned (some (.long (A.2.2 11 (64 * j + l))))) (hm m A h)) := by
  repeat' first
    | refine xV.step rfl ?_
    | refine xV.mget rfl rfl ?_
    | refine xV.mi rfl rfl rfl hj ?_
  rw [hl, xn_ix]
  refine xV.mj (n := 512) rfl rfl rfl (by omega) ?_
  exact xV.lret rfl rfl ⟨rfl, rfl⟩
def mmay (A : MS) (j : Nat) : Bool := decide (A.2.1 8 j = 1 ∧ A.2.1 18 j < A.2.1 9 j ∧ A.1 6 < A.2.1 20 j + 10)
theorem c_M_mayPunish {j : Nat} (hj : j < 8) : xV D N0 mM_mayPunish d 0 (xargs 2 [.ref m, .int (nI j)]) [] (hm m A h) (xEq (.returned (some (.int (xB (mmay A j))))) (hm m A h)) := by
  unfold mmay
  repeat' first
    | refine xV.step rfl ?_
    | refine xV.mget rfl rfl ?_
    | refine xV.mi rfl rfl rfl hj ?_
    | refine xV.br rfl (fun _ => ?_) (fun _ => ?_)
  all_goals refine xV.iret rfl rfl rfl ⟨?_, rfl⟩
  all_goals first
    | exact xB1 (by simp only [Int32.lt_iff_toInt_lt, Int32.le_iff_toInt_le, ← Int32.toInt_inj] at *; omega)
    | exact xB0 (by simp only [Int32.lt_iff_toInt_lt, Int32.le_iff_toInt_le, ← Int32.toInt_inj] at *; omega)
theorem c_M_shut {j : Nat} (hj : j < 8) : xV D N0 mM_shut d 0 (xargs 2 [.ref m, .int (nI j)]) [] (hm m A h) (xEq (.returned none) (hm m (mI (mI A 8 j 2) 12 j 0) h)) := by
  repeat' first
    | refine xV.step rfl ?_
    | refine xV.mget rfl rfl ?_
    | refine xV.si rfl rfl rfl rfl hj ?_
  exact xV.vret rfl rfl ⟨rfl, rfl⟩
end Y18
