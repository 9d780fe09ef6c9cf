/- Part 27: the model: keep, claim, takeBack. -/
def mleft (A : MS) (c k : Int32) (j : Nat) : Bool := isc A c && (if A.2.1 18 j = -1 then decide (0 ≤ k ∧ k ≤ A.2.1 13 j - 1) else mbit (A.2.2 21 j) k)
def mgo (A : MS) (j q o : Nat) : MS :=
  let A1 := mJ A 21 j (A.2.2 21 j &&& (bk (nI q) ^^^ (-1)))
  let A2 := mI A1 1 o (A1.2.1 1 o + A1.2.1 15 (64 * j + q))
  let A3 := mI A2 12 j (A2.2.1 12 j - A2.2.1 15 (64 * j + q))
  if A3.2.1 22 j ≠ 0 ∧ A3.2.2 21 j = 0 then mI (mI A3 8 j 2) 12 j 0 else A3
def tClaim (A : MS) (c k : Int32) (s : Int64) (j q K : Nat) : Int32 := if mleft A c k j = true then (if A.2.2 16 (64 * j + q) ≠ lk s then 2 else if A.2.1 8 j ≠ 1 ∨ mmay A j = true ∨ A.2.1 17 (64 * j + q) ≤ A.1 6 ∨ mhas A K (lk s) = false then 3 else 0) else 1
def tTake (A : MS) (c k : Int32) (j q : Nat) : Int32 := if mleft A c k j = true then (if A.2.1 8 j ≠ 1 ∨ mmay A j = true ∨ ¬ A.2.1 17 (64 * j + q) ≤ A.1 6 then 2 else 0) else 1
section X27
variable {D : va_G} {N0 : Nat} {d m : Nat} {h : XH} {A : MS}
theorem c_M_isLeft {j : Nat} {c k : Int32} (hc : isc A c = true → c = nI j ∧ j < 8) : xV D N0 mM_isLeft (d + 2) 0 (xargs 3 [.ref m, .int c, .int k]) [] (hm m A h) (xEq (.returned (some (.int (xB (mleft A c k j))))) (hm m A h)) := by
  repeat' refine xV.step rfl ?_
  refine xV.cM rfl rfl g_mM_isLeft_196 mM_isChannel_ok (Nat.le_of_ble_eq_true rfl) (Nat.le_of_ble_eq_true rfl) c_M_isChannel' ?_
  refine xV.br rfl (fun h1 => ?_) (fun h1 => ?_)
  · repeat' refine xV.step rfl ?_
    refine xV.iret rfl rfl rfl ⟨?_, rfl⟩
    unfold mleft
    rw [xB_f h1]; rfl
  have hcc := hc (xB_t h1)
  have hj := hcc.2
  have e := hcc.1
  have hL : mleft A c k j = (if A.2.1 18 j = -1 then decide (0 ≤ k ∧ k ≤ A.2.1 13 j - 1) else mbit (A.2.2 21 j) k) := by
    unfold mleft; rw [xB_t h1]; rfl
  rw [hL]
  clear hL hc hcc
  subst e
  repeat' first
    | refine xV.step rfl ?_
    | refine xV.mget rfl rfl ?_
    | refine xV.mi (j := j) rfl rfl rfl hj ?_
  refine xV.br rfl (fun h2 => ?_) (fun h2 => ?_)
  · rw [if_pos h2]
    repeat' first
      | refine xV.step rfl ?_
      | refine xV.mget rfl rfl ?_
      | refine xV.mi (j := j) rfl rfl rfl hj ?_
    refine xV.cS rfl rfl g_mM_isLeft_140 mM_isIn_ok (Nat.le_of_ble_eq_true rfl) (Nat.le_of_ble_eq_true rfl) c_M_isIn ?_
    repeat' refine xV.step rfl ?_
    exact xV.iret rfl rfl (xB_nar _) ⟨rfl, rfl⟩
  · rw [if_neg h2]
    repeat' first
      | refine xV.step rfl ?_
      | refine xV.mget rfl rfl ?_
      | refine xV.mj (j := j) rfl rfl rfl hj ?_
    refine xV.cS rfl rfl g_mM_isLeft_218 mM_hasBit_ok (Nat.le_of_ble_eq_true rfl) (Nat.le_of_ble_eq_true rfl) c_M_hasBit ?_
    exact xV.iret rfl rfl (xB_nar _) ⟨rfl, rfl⟩
theorem c_M_goes {j q o : Nat} {s : Int32} (hj : j < 8) (hq : q < 64) (ho : mnode A j s = nI o) (ho2 : o < 6) :
    xV D N0 mM_goes (d + 1) 0 (xargs 6 [.ref m, .int (nI j), .int (nI q), .int s]) [] (hm m A h) (xEq (.returned (some (.int ((mgo A j q o).2.1 1 o)))) (hm m (mgo A j q o) h)) := by
  repeat' refine xV.step rfl ?_
  refine xV.cM rfl rfl g_mM_goes_192 mM_nodeOf_ok (Nat.le_of_ble_eq_true rfl) (Nat.le_of_ble_eq_true rfl) (c_M_nodeOf hj) ?_
  rw [ho]
  repeat' first
    | refine xV.step rfl ?_
    | refine xV.mget rfl rfl ?_
    | refine xV.mj (j := j) rfl rfl rfl hj ?_
    | refine xV.sj (j := j) rfl rfl rfl rfl hj ?_
    | refine xV.mi' (n := 512) (j := 64 * j + q) rfl rfl rfl (xn_ix j q) (by omega) ?_
    | refine xV.mi (j := o) rfl rfl rfl ho2 ?_
    | refine xV.si (j := o) rfl rfl rfl rfl ho2 ?_
    | refine xV.mi (j := j) rfl rfl rfl hj ?_
    | refine xV.si (j := j) rfl rfl rfl rfl hj ?_
    | refine xV.mz (j := j) rfl rfl rfl hj ?_
  have fin : ∀ B : MS, mgo A j q o = B → xV D N0 mM_goes (d + 1) 94 [some (.ref m), some (.int (nI j)), some (.int (nI q)), some (.int s), some (.int (64 * nI j + nI q)), some (.int (nI o))] [] (hm m B h) (xEq (.returned (some (.int ((mgo A j q o).2.1 1 o)))) (hm m (mgo A j q o) h)) := by
    intro B hB
    rw [hB]
    repeat' first
      | refine xV.step rfl ?_
      | refine xV.mget rfl rfl ?_
      | refine xV.mi (j := o) rfl rfl rfl ho2 ?_
    exact xV.iret rfl rfl rfl ⟨rfl, rfl⟩
  refine xV.br rfl (fun h1 => ?_) (fun h1 => ?_)
  · exact fin _ (if_neg (fun z => z.1 h1))
  · repeat' first
      | refine xV.step rfl ?_
      | refine xV.mget rfl rfl ?_
      | refine xV.mj (j := j) rfl rfl rfl hj ?_
    refine xV.br rfl (fun h2 => ?_) (fun h2 => ?_)
    · rw [lg_cmp_eq0] at h2
      repeat' refine xV.step rfl ?_
      refine xV.cM rfl rfl g_mM_goes_229 mM_shut_ok (Nat.le_of_ble_eq_true rfl) (Nat.le_of_ble_eq_true rfl) (c_M_shut hj) ?_
      exact fin _ (if_pos ⟨h1, h2⟩)
    · rw [lg_cmp_eq0] at h2
      exact fin _ (if_neg (fun z => h2 z.2))
theorem c_M_takeBack {j q o : Nat} {c k : Int32} (hc : isc A c = true → c = nI j ∧ j < 8) (hk : mleft A c k j = true → k = nI q ∧ q < 64 ∧ mnode A j (A.2.1 14 (64 * j + q)) = nI o ∧ o < 6) :
    xV D N0 mM_takeBack (d + 3) 0 (xargs 5 [.ref m, .int c, .int k]) [] (hm m A h) (xTw (tTake A c k j q) (.returned (some (.int 0))) (hm m (mF A 0 (tTake A c k j q)) h) (.returned (some (.int ((mgo (mF A 0 0) j q o).2.1 1 o)))) (hm m (mgo (mF A 0 0) j q o) h)) := by
  have tl : ∀ t x y : Int32, t = 1 ∨ t = 2 → tTake A c k j q = t → xV D N0 mM_takeBack (d + 3) 69 [some (.ref m), some (.int c), some (.int k), some (.int x), some (.int y)] [.int t, .ref m] (hm m A h) (xTw (tTake A c k j q) (.returned (some (.int 0))) (hm m (mF A 0 (tTake A c k j q)) h) (.returned (some (.int ((mgo (mF A 0 0) j q o).2.1 1 o)))) (hm m (mgo (mF A 0 0) j q o) h)) := by
    intro t x y ht hT
    have h0 : t ≠ 0 ∧ ¬ t ≤ 0 := by rcases ht with rfl | rfl <;> exact ⟨by decide, by decide⟩
    refine xV.mput rfl rfl rfl (Nat.le_of_ble_eq_true rfl) ?_
    repeat' refine xV.step rfl ?_
    refine xV.mget (v := .int t) rfl rfl ?_
    refine xV.br rfl (fun h2 => absurd h2 h0.2) (fun h2 => ?_)
    repeat' refine xV.step rfl ?_
    exact xV.iret rfl rfl rfl (Or.inl ⟨by rw [hT]; exact h0.1, rfl, by rw [hT]⟩)
  repeat' refine xV.step rfl ?_
  refine xV.cM rfl rfl g_mM_takeBack_279 mM_isLeft_ok (Nat.le_of_ble_eq_true rfl) (Nat.le_of_ble_eq_true rfl) (c_M_isLeft hc) ?_
  repeat' refine xV.step rfl ?_
  cases hlf : mleft A c k j with
  | false =>
    refine xV.br rfl (fun h1 => ?_) (fun h1 => absurd rfl h1)
    repeat' refine xV.step rfl ?_
    refine xV.br rfl (fun h2 => ?_) (fun h2 => absurd rfl h2)
    refine xV.step rfl ?_
    refine xV.step rfl ?_
    exact tl 1 _ _ (Or.inl rfl) (by unfold tTake; rw [if_neg (by rw [hlf]; decide)])
  | true =>
    have hic : isc A c = true := by unfold mleft at hlf; rw [Bool.and_eq_true] at hlf; exact hlf.1
    obtain ⟨rfl, hj⟩ := hc hic
    obtain ⟨rfl, hq2, ho, ho2⟩ := hk hlf
    refine xV.br rfl (fun h1 => absurd h1 (by decide)) (fun h1 => ?_)
    repeat' refine xV.step rfl ?_
    refine xV.br rfl (fun h2 => absurd h2 (by decide)) (fun h2 => ?_)
    have two : (A.2.1 8 j ≠ 1 ∨ mmay A j = true ∨ ¬ A.2.1 17 (64 * j + q) ≤ A.1 6) → xV D N0 mM_takeBack (d + 3) 64 [some (.ref m), some (.int (nI j)), some (.int (nI q)), some (.int (xB true)), some (.int (64 * nI j + nI q))] [.ref m] (hm m A h) (xTw (tTake A (nI j) (nI q) j q) (.returned (some (.int 0))) (hm m (mF A 0 (tTake A (nI j) (nI q) j q)) h) (.returned (some (.int ((mgo (mF A 0 0) j q o).2.1 1 o)))) (hm m (mgo (mF A 0 0) j q o) h)) := fun hz => by
      refine xV.step rfl ?_
      refine xV.step rfl ?_
      exact tl 2 _ _ (Or.inr rfl) (by unfold tTake; rw [if_pos hlf, if_pos hz])
    repeat' first
      | refine xV.step rfl ?_
      | refine xV.mget rfl rfl ?_
      | refine xV.mi (j := j) rfl rfl rfl hj ?_
    refine xV.br rfl (fun h3 => ?_) (fun h3 => two (Or.inl h3))
    repeat' refine xV.step rfl ?_
    refine xV.cM rfl rfl g_mM_takeBack_273 mM_mayPunish_ok (Nat.le_of_ble_eq_true rfl) (Nat.le_of_ble_eq_true rfl) (c_M_mayPunish hj) ?_
    refine xV.br rfl (fun h4 => ?_) (fun h4 => two (Or.inr (Or.inl (xB_t h4))))
    repeat' first
      | refine xV.step rfl ?_
      | refine xV.mget rfl rfl ?_
      | refine xV.mi' (n := 512) (j := 64 * j + q) rfl rfl rfl (xn_ix j q) (by omega) ?_
    refine xV.br rfl (fun h5 => ?_) (fun h5 => two (Or.inr (Or.inr h5)))
    have hT : tTake A (nI j) (nI q) j q = 0 := by
      unfold tTake
      rw [if_pos hlf, if_neg]
      rintro (z | z | z)
      · exact z h3
      · rw [xB_f h4] at z; cases z
      · exact z h5
    refine xV.step rfl ?_
    refine xV.mput rfl rfl rfl (Nat.le_of_ble_eq_true rfl) ?_
    repeat' refine xV.step rfl ?_
    refine xV.mget (v := .int 0) rfl rfl ?_
    refine xV.br rfl (fun h9 => ?_) (fun h9 => absurd (by decide) h9)
    repeat' first
      | refine xV.step rfl ?_
      | refine xV.mget rfl rfl ?_
      | refine xV.mi' (n := 512) (j := 64 * j + q) rfl rfl rfl (xn_ix j q) (by omega) ?_
    refine xV.cM rfl rfl g_mM_takeBack_283 mM_goes_ok (Nat.le_of_ble_eq_true rfl) (Nat.le_of_ble_eq_true rfl) (c_M_goes (A := mF A 0 0) hj hq2 ho ho2) ?_
    exact xV.iret rfl rfl rfl (Or.inr ⟨hT, rfl, rfl⟩)
end X27
