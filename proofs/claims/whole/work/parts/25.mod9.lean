/- Part 25: the model: promise, drop, close. -/
def isc (A : MS) (c : Int32) : Bool := decide (0 ≤ c ∧ c ≤ A.1 7 - 1)
def msd (A : MS) (j : Nat) (n : Int32) : Nat := if n = A.2.1 6 j then 0 else 1
def mnow (A : MS) (j l : Nat) : Int64 := A.2.2 11 (64 * j + l)
def tProm (A : MS) (c n a e : Int32) (j l : Nat) : Int32 := if isc A c = true ∧ mside A j n ≠ -1 then (if a < 1 then 2 else if A.2.1 8 j ≠ 0 ∨ bitsN (mnow A j l) 64 = 6 ∨ ¬ A.2.1 9 j + 1 < 64 ∨ A.2.1 10 (2 * (64 * j + l) + msd A j n) < a ∨ e ≤ A.1 6 then 3 else 0) else 1
def tDrop (A : MS) (c k : Int32) (j l : Nat) : Int32 := if isc A c = true ∧ mbit (mnow A j l) k = true then (if A.2.1 8 j ≠ 0 ∨ ¬ A.2.1 9 j + 1 < 64 then 2 else 0) else 1
def tClose (A : MS) (c : Int32) (j l : Nat) : Int32 := if isc A c = true then (if A.2.1 8 j ≠ 0 ∨ mnow A j l ≠ 0 then 2 else 0) else 1
def mclose (A : MS) (j l f s : Nat) : MS :=
  let A2 := mI (mF A 0 0) 1 f (A.2.1 1 f + A.2.1 10 (2 * (64 * j + l) + 0))
  let A3 := mI A2 1 s (A2.2.1 1 s + A2.2.1 10 (2 * (64 * j + l) + 1))
  mI (mI A3 8 j 2) 12 j 0
theorem msd_lt (A : MS) (j : Nat) (n : Int32) : msd A j n < 2 := by unfold msd; split <;> omega
theorem mside_nat {A : MS} {j : Nat} {n : Int32} (h : mside A j n ≠ -1) : mside A j n = nI (msd A j n) := by
  unfold mside msd at *
  split
  · rfl
  · rename_i h1
    rw [if_neg h1] at h
    split
    · rfl
    · rename_i h2
      rw [if_neg h2] at h
      exact absurd rfl h
theorem mbit_nat {s : Int64} {k : Int32} (h : mbit s k = true) : ∃ q, q < 64 ∧ k = nI q := by
  obtain ⟨h1, h2, -⟩ := of_decide_eq_true h
  rw [Int32.le_iff_toInt_le] at h1
  rw [Int32.lt_iff_toInt_lt] at h2
  have e0 : (0 : Int32).toInt = 0 := rfl
  have e5 : (64 : Int32).toInt = 64 := rfl
  exact xn_of (by omega) (by omega) (by omega)
theorem lat_lt {l : Nat} (hl : l < 64) (h : nI l + 1 < 64) : l < 63 := by
  rw [xn_succ, show (64 : Int32) = nI 64 from rfl, xn_lt (by omega) (by omega)] at h
  omega
section X25
variable {D : va_G} {N0 : Nat} {d m : Nat} {h : XH} {A : MS}
theorem c_M_isChannel' {v : Int32} : xV D N0 mM_isChannel (d + 1) 0 (xargs 2 [.ref m, .int v]) [] (hm m A h) (xEq (.returned (some (.int (xB (isc A v))))) (hm m A h)) := c_M_isChannel
theorem c_M_close {j l f s : Nat} {c : Int32} (hc : isc A c = true → c = nI j ∧ j < 8 ∧ A.2.1 9 j = nI l ∧ l < 64 ∧ A.2.1 6 j = nI f ∧ f < 6 ∧ A.2.1 7 j = nI s ∧ s < 6) :
    xV D N0 mM_close (d + 3) 0 (xargs 2 [.ref m, .int c]) [] (hm m A h) (xTw (tClose A c j l) (.returned none) (hm m (mF A 0 (tClose A c j l)) h) (.returned none) (hm m (mclose A j l f s) h)) := by
  have tl : ∀ t : Int32, t = 1 ∨ t = 2 → tClose A c j l = t → xV D N0 mM_close (d + 3) 37 (xargs 2 [.ref m, .int c]) [.int t, .ref m] (hm m A h) (xTw (tClose A c j l) (.returned none) (hm m (mF A 0 (tClose A c j l)) h) (.returned none) (hm m (mclose A j l f s) h)) := by
    intro t ht hT
    have h0 : t ≠ 0 := by rcases ht with rfl | rfl <;> decide
    refine xV.mput rfl rfl rfl (Nat.le_of_ble_eq_true rfl) ?_
    repeat' refine xV.step rfl ?_
    refine xV.mget (v := .int t) rfl rfl ?_
    refine xV.br rfl (fun h2 => absurd h2 h0) (fun h2 => ?_)
    exact xV.vret rfl rfl (Or.inl ⟨by rw [hT]; exact h0, rfl, by rw [hT]⟩)
  repeat' refine xV.step rfl ?_
  refine xV.cM rfl rfl g_mM_close_196 mM_isChannel_ok (Nat.le_of_ble_eq_true rfl) (Nat.le_of_ble_eq_true rfl) c_M_isChannel' ?_
  refine xV.br rfl (fun h1 => ?_) (fun h1 => ?_)
  · refine xV.step rfl ?_
    refine xV.step rfl ?_
    exact tl 1 (Or.inl rfl) (by unfold tClose; rw [if_neg (by rw [xB_f h1]; decide)])
  obtain ⟨rfl, hj, hl, hl2, hf, hf2, hs, hs2⟩ := hc (xB_t h1)
  have two : (A.2.1 8 j ≠ 0 ∨ mnow A j l ≠ 0) → xV D N0 mM_close (d + 3) 32 (xargs 2 [.ref m, .int (nI j)]) [.ref m] (hm m A h) (xTw (tClose A (nI j) j l) (.returned none) (hm m (mF A 0 (tClose A (nI j) j l)) h) (.returned none) (hm m (mclose A j l f s) h)) := fun hz => by
    refine xV.step rfl ?_
    refine xV.step rfl ?_
    exact tl 2 (Or.inr rfl) (by unfold tClose; rw [if_pos (xB_t h1), if_pos hz])
  repeat' first
    | refine xV.step rfl ?_
    | refine xV.mget rfl rfl ?_
    | refine xV.mi rfl rfl rfl hj ?_
  refine xV.br rfl (fun h2 => ?_) (fun h2 => two (Or.inl h2))
  repeat' refine xV.step rfl ?_
  refine xV.cM rfl rfl g_mM_close_182 mM_now_ok (Nat.le_of_ble_eq_true rfl) (Nat.le_of_ble_eq_true rfl) (c_M_now hj hl hl2) ?_
  repeat' refine xV.step rfl ?_
  refine xV.br rfl (fun h3 => ?_) (fun h3 => two (Or.inr (fun z => h3 ((lg_cmp_eq0 _ _).mpr z))))
  have hT : tClose A (nI j) j l = 0 := by
    unfold tClose
    rw [if_pos (xB_t h1), if_neg]
    rintro (z | z)
    · exact z h2
    · exact z ((lg_cmp_eq0 _ _).mp h3)
  refine xV.step rfl ?_
  refine xV.mput rfl rfl rfl (Nat.le_of_ble_eq_true rfl) ?_
  repeat' refine xV.step rfl ?_
  refine xV.mget (v := .int 0) rfl rfl ?_
  refine xV.br rfl (fun h6 => ?_) (fun h6 => absurd rfl h6)
  repeat' first
    | refine xV.step rfl ?_
    | refine xV.mget rfl rfl ?_
    | refine xV.mi (j := j) rfl rfl rfl hj ?_
  rw [show (mF A 0 0).2.1 6 j = nI f from hf]
  repeat' first
    | refine xV.step rfl ?_
    | refine xV.mget rfl rfl ?_
    | refine xV.mi (j := f) rfl rfl rfl hf2 ?_
  refine xV.cM rfl rfl g_mM_close_208 mM_balance_ok (Nat.le_of_ble_eq_true rfl) (Nat.le_of_ble_eq_true rfl) (c_M_balance (A := mF A 0 0) (s := 0) hj hl hl2 (by omega)) ?_
  repeat' first
    | refine xV.step rfl ?_
    | refine xV.si (j := f) rfl rfl rfl rfl hf2 ?_
    | refine xV.mget rfl rfl ?_
    | refine xV.mi (j := j) rfl rfl rfl hj ?_
  rw [show (mI (mF A 0 0) 1 f ((mF A 0 0).2.1 1 f + (mF A 0 0).2.1 10 (2 * (64 * j + l) + 0))).2.1 7 j = nI s from hs]
  repeat' first
    | refine xV.step rfl ?_
    | refine xV.mget rfl rfl ?_
    | refine xV.mi (j := s) rfl rfl rfl hs2 ?_
  refine xV.cM rfl rfl g_mM_close_208 mM_balance_ok (Nat.le_of_ble_eq_true rfl) (Nat.le_of_ble_eq_true rfl) (c_M_balance (A := mI (mF A 0 0) 1 f ((mF A 0 0).2.1 1 f + (mF A 0 0).2.1 10 (2 * (64 * j + l) + 0))) (s := 1) hj hl hl2 (by omega)) ?_
  repeat' first
    | refine xV.step rfl ?_
    | refine xV.si (j := s) rfl rfl rfl rfl hs2 ?_
  refine xV.cM rfl rfl g_mM_close_229 mM_shut_ok (Nat.le_of_ble_eq_true rfl) (Nat.le_of_ble_eq_true rfl) (c_M_shut hj) ?_
  exact xV.vret rfl rfl (Or.inr ⟨hT, rfl, rfl⟩)
theorem c_M_drop {j l q : Nat} {c k : Int32} (hc : isc A c = true → c = nI j ∧ j < 8 ∧ A.2.1 9 j = nI l ∧ l < 64) (hq : mbit (mnow A j l) k = true → k = nI q ∧ q < 64) :
    xV D N0 mM_drop (d + 3) 0 (xargs 4 [.ref m, .int c, .int k]) [] (hm m A h) (xTw (tDrop A c k j l) (.returned (some (.int 0))) (hm m (mF A 0 (tDrop A c k j l)) h) (.returned (some (.int (nI (l + 1))))) (hm m (mdrop (mF A 0 0) j l q) h)) := by
  have tl : ∀ t x : Int32, t = 1 ∨ t = 2 → tDrop A c k j l = t → xV D N0 mM_drop (d + 3) 57 [some (.ref m), some (.int c), some (.int k), some (.int x)] [.int t, .ref m] (hm m A h) (xTw (tDrop A c k j l) (.returned (some (.int 0))) (hm m (mF A 0 (tDrop A c k j l)) h) (.returned (some (.int (nI (l + 1))))) (hm m (mdrop (mF A 0 0) j l q) h)) := by
    intro t x ht hT
    have h0 : t ≠ 0 ∧ ¬ t ≤ 0 := by rcases ht with rfl | rfl <;> exact ⟨by decide, by decide⟩
    refine xV.mput rfl rfl rfl (Nat.le_of_ble_eq_true rfl) ?_
    repeat' refine xV.step rfl ?_
    refine xV.mget (v := .int t) rfl rfl ?_
    refine xV.br rfl (fun h2 => absurd h2 h0.2) (fun h2 => ?_)
    repeat' refine xV.step rfl ?_
    exact xV.iret rfl rfl rfl (Or.inl ⟨by rw [hT]; exact h0.1, rfl, by rw [hT]⟩)
  have no : ¬ (isc A c = true ∧ mbit (mnow A j l) k = true) → xV D N0 mM_drop (d + 3) 24 (xargs 4 [.ref m, .int c, .int k]) [] (hm m A h) (xTw (tDrop A c k j l) (.returned (some (.int 0))) (hm m (mF A 0 (tDrop A c k j l)) h) (.returned (some (.int (nI (l + 1))))) (hm m (mdrop (mF A 0 0) j l q) h)) := fun hz => by
    repeat' refine xV.step rfl ?_
    refine xV.br rfl (fun h2 => ?_) (fun h2 => absurd rfl h2)
    refine xV.step rfl ?_
    refine xV.step rfl ?_
    exact tl 1 0 (Or.inl rfl) (by unfold tDrop; rw [if_neg hz])
  repeat' refine xV.step rfl ?_
  refine xV.cM rfl rfl g_mM_drop_196 mM_isChannel_ok (Nat.le_of_ble_eq_true rfl) (Nat.le_of_ble_eq_true rfl) c_M_isChannel' ?_
  refine xV.br rfl (fun h1 => no (fun z => by rw [xB_f h1] at z; cases z.1)) (fun h1 => ?_)
  obtain ⟨rfl, hj, hl, hl2⟩ := hc (xB_t h1)
  repeat' refine xV.step rfl ?_
  refine xV.cM rfl rfl g_mM_drop_182 mM_now_ok (Nat.le_of_ble_eq_true rfl) (Nat.le_of_ble_eq_true rfl) (c_M_now hj hl hl2) ?_
  repeat' refine xV.step rfl ?_
  refine xV.cS rfl rfl g_mM_drop_218 mM_hasBit_ok (Nat.le_of_ble_eq_true rfl) (Nat.le_of_ble_eq_true rfl) c_M_hasBit ?_
  refine xV.br rfl (fun h2 => no (fun z => by rw [show mbit (mnow A j l) k = false from xB_f h2] at z; cases z.2)) (fun h2 => ?_)
  have hb : mbit (mnow A j l) k = true := xB_t h2
  obtain ⟨rfl, hq2⟩ := hq hb
  repeat' refine xV.step rfl ?_
  refine xV.br rfl (fun h3 => absurd h3 (by decide)) (fun h3 => ?_)
  have two : (A.2.1 8 j ≠ 0 ∨ ¬ A.2.1 9 j + 1 < 64) → xV D N0 mM_drop (d + 3) 52 [some (.ref m), some (.int (nI j)), some (.int (nI q)), some (.int 1)] [.ref m] (hm m A h) (xTw (tDrop A (nI j) (nI q) j l) (.returned (some (.int 0))) (hm m (mF A 0 (tDrop A (nI j) (nI q) j l)) h) (.returned (some (.int (nI (l + 1))))) (hm m (mdrop (mF A 0 0) j l q) h)) := fun hz => by
    refine xV.step rfl ?_
    refine xV.step rfl ?_
    exact tl 2 1 (Or.inr rfl) (by unfold tDrop; rw [if_pos ⟨xB_t h1, hb⟩, if_pos hz])
  repeat' first
    | refine xV.step rfl ?_
    | refine xV.mget rfl rfl ?_
    | refine xV.mi (j := j) rfl rfl rfl hj ?_
  refine xV.br rfl (fun h4 => ?_) (fun h4 => two (Or.inl h4))
  repeat' refine xV.step rfl ?_
  refine xV.cM rfl rfl g_mM_drop_205 mM_hasState_ok (Nat.le_of_ble_eq_true rfl) (Nat.le_of_ble_eq_true rfl) (c_M_hasState hj) ?_
  refine xV.br rfl (fun h5 => two (Or.inr (of_decide_eq_false (xB_f h5)))) (fun h5 => ?_)
  have h6 := of_decide_eq_true (xB_t h5)
  have hT : tDrop A (nI j) (nI q) j l = 0 := by
    unfold tDrop
    rw [if_pos ⟨xB_t h1, hb⟩, if_neg]
    rintro (z | z)
    · exact z h4
    · exact z h6
  have hl3 : l < 63 := lat_lt hl2 (by rw [← hl]; exact h6)
  refine xV.step rfl ?_
  refine xV.mput rfl rfl rfl (Nat.le_of_ble_eq_true rfl) ?_
  repeat' refine xV.step rfl ?_
  refine xV.mget (v := .int 0) rfl rfl ?_
  refine xV.br rfl (fun h6 => ?_) (fun h6 => absurd (by decide) h6)
  repeat' refine xV.step rfl ?_
  refine xV.cM rfl rfl g_mM_drop_226 mM_dropPromise_ok (Nat.le_of_ble_eq_true rfl) (Nat.le_of_ble_eq_true rfl) (c_M_dropPromise (A := mF A 0 0) hj hl hl3 hq2) ?_
  repeat' first
    | refine xV.step rfl ?_
    | refine xV.mget rfl rfl ?_
    | refine xV.mi (j := j) rfl rfl rfl hj ?_
  refine xV.iret rfl rfl rfl (Or.inr ⟨hT, ?_, rfl⟩)
  show Outcome.returned (some (.int (upd (A.2.1 9) j (nI (l + 1)) j))) = _
  simp [upd]
end X25
