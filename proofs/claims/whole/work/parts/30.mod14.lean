/- Part 30: the model: channel, made, payment, hop. -/
def tChan (A : MS) (c w : Int32) : Int32 := if isc A c = true then (if 0 ≤ w ∧ w ≤ 5 then 0 else 2) else 1
def rChan (A : MS) (j : Nat) (w : Int32) : Int32 := if w = 0 then A.2.1 8 j else if w = 1 then A.2.1 9 j else if w = 2 then A.2.1 18 j else if w = 3 then A.2.1 20 j else if w = 4 then A.2.1 12 j else A.2.1 13 j
def tMade (A : MS) (c k w : Int32) (j : Nat) : Int32 := if isc A c = true ∧ (0 ≤ k ∧ k ≤ A.2.1 13 j - 1) then (if 0 ≤ w ∧ w ≤ 3 then 0 else 2) else 1
def rMade (A : MS) (j l q : Nat) (w : Int32) : Int32 := if w = 0 then mnode A j (A.2.1 14 (64 * j + q)) else if w = 1 then A.2.1 15 (64 * j + q) else if w = 2 then A.2.1 17 (64 * j + q) else xB (mbit (mnow A j l) (nI q))
def isp (A : MS) (p : Int32) : Bool := decide (0 ≤ p ∧ p ≤ A.1 34 - 1)
def tPayt (A : MS) (p w : Int32) : Int32 := if isp A p = true then (if 0 ≤ w ∧ w ≤ 3 then 0 else 2) else 1
def rPayt (A : MS) (j : Nat) (w : Int32) : Int32 := if w = 0 then A.2.1 29 j else if w = 1 then A.2.1 30 j else if w = 2 then A.2.1 31 j else A.2.1 33 j
def tHop (A : MS) (i : Int32) : Int32 := if -1 ≤ i ∧ i ≤ A.1 28 - 1 then 0 else 1
def rHop (A : MS) (q : Nat) (i : Int32) : Int32 := if i = -1 then A.1 28 else A.2.1 25 q
section X30
variable {D : va_G} {N0 : Nat} {d m : Nat} {h : XH} {A : MS}
theorem c_M_channel {j : Nat} {c w : Int32} (hc : isc A c = true → c = nI j ∧ j < 8) : xV D N0 mM_channel (d + 3) 0 (xargs 3 [.ref m, .int c, .int w]) [] (hm m A h) (xTw (tChan A c w) (.returned (some (.int 0))) (hm m (mF A 0 (tChan A c w)) h) (.returned (some (.int (rChan A j w)))) (hm m (mF A 0 0) h)) := by
  have tl : ∀ t : Int32, t = 1 ∨ t = 2 → tChan A c w = t → xV D N0 mM_channel (d + 3) 27 (xargs 3 [.ref m, .int c, .int w]) [.int t, .ref m] (hm m A h) (xTw (tChan A c w) (.returned (some (.int 0))) (hm m (mF A 0 (tChan A c w)) h) (.returned (some (.int (rChan A j w)))) (hm m (mF A 0 0) h)) := by
    intro t ht hT
    have h0 : t ≠ 0 ∧ ¬ t ≤ 0 := by rcases ht with rfl | rfl <;> exact ⟨by decide, by decide⟩
    refine xV.mput rfl rfl rfl (Nat.le_of_ble_eq_true rfl) ?_
    repeat' refine xV.step rfl ?_
    refine xV.mget (v := .int t) rfl rfl ?_
    refine xV.br rfl (fun h2 => absurd h2 h0.2) (fun h2 => ?_)
    repeat' refine xV.step rfl ?_
    exact xV.iret rfl rfl rfl (Or.inl ⟨by rw [hT]; exact h0.1, rfl, by rw [hT]⟩)
  repeat' refine xV.step rfl ?_
  refine xV.cM rfl rfl g_mM_channel_196 mM_isChannel_ok (Nat.le_of_ble_eq_true rfl) (Nat.le_of_ble_eq_true rfl) c_M_isChannel' ?_
  refine xV.br rfl (fun h1 => ?_) (fun h1 => ?_)
  · refine xV.step rfl ?_
    refine xV.step rfl ?_
    exact tl 1 (Or.inl rfl) (by unfold tChan; rw [if_neg (by rw [xB_f h1]; decide)])
  obtain ⟨rfl, hj⟩ := hc (xB_t h1)
  repeat' refine xV.step rfl ?_
  refine xV.cS rfl rfl g_mM_channel_140 mM_isIn_ok (Nat.le_of_ble_eq_true rfl) (Nat.le_of_ble_eq_true rfl) c_M_isIn ?_
  refine xV.br rfl (fun h2 => ?_) (fun h2 => ?_)
  · refine xV.step rfl ?_
    refine xV.step rfl ?_
    exact tl 2 (Or.inr rfl) (by unfold tChan; rw [if_pos (xB_t h1), if_neg (of_decide_eq_false (xB_f h2))])
  have hT : tChan A (nI j) w = 0 := by unfold tChan; rw [if_pos (xB_t h1), if_pos (of_decide_eq_true (xB_t h2))]
  refine xV.step rfl ?_
  refine xV.mput rfl rfl rfl (Nat.le_of_ble_eq_true rfl) ?_
  repeat' refine xV.step rfl ?_
  refine xV.mget (v := .int 0) rfl rfl ?_
  refine xV.br rfl (fun h9 => ?_) (fun h9 => absurd (by decide) h9)
  unfold rChan
  repeat' first
    | refine xV.step rfl ?_
    | refine xV.mget rfl rfl ?_
    | refine xV.mi (j := j) rfl rfl rfl hj ?_
    | refine xV.br rfl (fun _ => ?_) (fun _ => ?_)
  all_goals refine xV.iret rfl rfl rfl (Or.inr ⟨hT, ?_, rfl⟩)
  all_goals (repeat first | rw [if_pos (by assumption)] | rw [if_neg (by assumption)])
  all_goals rfl
theorem c_M_payment {j : Nat} {p w : Int32} (hp : isp A p = true → p = nI j ∧ j < 16) : xV D N0 mM_payment (d + 3) 0 (xargs 3 [.ref m, .int p, .int w]) [] (hm m A h) (xTw (tPayt A p w) (.returned (some (.int 0))) (hm m (mF A 0 (tPayt A p w)) h) (.returned (some (.int (rPayt A j w)))) (hm m (mF A 0 0) h)) := by
  have tl : ∀ t : Int32, t = 1 ∨ t = 2 → tPayt A p w = t → xV D N0 mM_payment (d + 3) 33 (xargs 3 [.ref m, .int p, .int w]) [.int t, .ref m] (hm m A h) (xTw (tPayt A p w) (.returned (some (.int 0))) (hm m (mF A 0 (tPayt A p w)) h) (.returned (some (.int (rPayt A j w)))) (hm m (mF A 0 0) h)) := by
    intro t ht hT
    have h0 : t ≠ 0 ∧ ¬ t ≤ 0 := by rcases ht with rfl | rfl <;> exact ⟨by decide, by decide⟩
    refine xV.mput rfl rfl rfl (Nat.le_of_ble_eq_true rfl) ?_
    repeat' refine xV.step rfl ?_
    refine xV.mget (v := .int t) rfl rfl ?_
    refine xV.br rfl (fun h2 => absurd h2 h0.2) (fun h2 => ?_)
    repeat' refine xV.step rfl ?_
    exact xV.iret rfl rfl rfl (Or.inl ⟨by rw [hT]; exact h0.1, rfl, by rw [hT]⟩)
  repeat' first
    | refine xV.step rfl ?_
    | refine xV.mget rfl rfl ?_
  refine xV.cS rfl rfl g_mM_payment_140 mM_isIn_ok (Nat.le_of_ble_eq_true rfl) (Nat.le_of_ble_eq_true rfl) c_M_isIn ?_
  refine xV.br rfl (fun h1 => ?_) (fun h1 => ?_)
  · refine xV.step rfl ?_
    refine xV.step rfl ?_
    exact tl 1 (Or.inl rfl) (by unfold tPayt; rw [if_neg (by rw [show isp A p = false from xB_f h1]; decide)])
  have h1' : isp A p = true := xB_t h1
  obtain ⟨rfl, hj⟩ := hp h1'
  repeat' refine xV.step rfl ?_
  refine xV.cS rfl rfl g_mM_payment_140 mM_isIn_ok (Nat.le_of_ble_eq_true rfl) (Nat.le_of_ble_eq_true rfl) c_M_isIn ?_
  refine xV.br rfl (fun h2 => ?_) (fun h2 => ?_)
  · refine xV.step rfl ?_
    refine xV.step rfl ?_
    exact tl 2 (Or.inr rfl) (by unfold tPayt; rw [if_pos h1', if_neg (of_decide_eq_false (xB_f h2))])
  have hT : tPayt A (nI j) w = 0 := by unfold tPayt; rw [if_pos h1', if_pos (of_decide_eq_true (xB_t h2))]
  refine xV.step rfl ?_
  refine xV.mput rfl rfl rfl (Nat.le_of_ble_eq_true rfl) ?_
  repeat' refine xV.step rfl ?_
  refine xV.mget (v := .int 0) rfl rfl ?_
  refine xV.br rfl (fun h9 => ?_) (fun h9 => absurd (by decide) h9)
  unfold rPayt
  repeat' first
    | refine xV.step rfl ?_
    | refine xV.mget rfl rfl ?_
    | refine xV.mi (j := j) rfl rfl rfl hj ?_
    | refine xV.br rfl (fun _ => ?_) (fun _ => ?_)
  all_goals refine xV.iret rfl rfl rfl (Or.inr ⟨hT, ?_, rfl⟩)
  all_goals (repeat first | rw [if_pos (by assumption)] | rw [if_neg (by assumption)])
  all_goals rfl
theorem c_M_hop {q : Nat} {i : Int32} (hq : -1 ≤ i ∧ i ≤ A.1 28 - 1 → i ≠ -1 → i = nI q ∧ q < 5) : xV D N0 mM_hop (d + 3) 0 (xargs 2 [.ref m, .int i]) [] (hm m A h) (xTw (tHop A i) (.returned (some (.int 0))) (hm m (mF A 0 1) h) (.returned (some (.int (rHop A q i)))) (hm m (mF A 0 0) h)) := by
  repeat' first
    | refine xV.step rfl ?_
    | refine xV.mget rfl rfl ?_
  refine xV.cS rfl rfl g_mM_hop_140 mM_isIn_ok (Nat.le_of_ble_eq_true rfl) (Nat.le_of_ble_eq_true rfl) c_M_isIn ?_
  refine xV.br rfl (fun h1 => ?_) (fun h1 => ?_)
  · have hT : tHop A i = 1 := by unfold tHop; rw [if_neg (of_decide_eq_false (xB_f h1))]
    refine xV.step rfl ?_
    refine xV.mput rfl rfl rfl (Nat.le_of_ble_eq_true rfl) ?_
    repeat' refine xV.step rfl ?_
    refine xV.mget (v := .int 1) rfl rfl ?_
    refine xV.br rfl (fun h2 => absurd h2 (by decide)) (fun h2 => ?_)
    repeat' refine xV.step rfl ?_
    exact xV.iret rfl rfl rfl (Or.inl ⟨by rw [hT]; decide, rfl, rfl⟩)
  · have hr := of_decide_eq_true (xB_t h1)
    have hT : tHop A i = 0 := by unfold tHop; rw [if_pos hr]
    refine xV.step rfl ?_
    refine xV.step rfl ?_
    refine xV.mput rfl rfl rfl (Nat.le_of_ble_eq_true rfl) ?_
    repeat' refine xV.step rfl ?_
    refine xV.mget (v := .int 0) rfl rfl ?_
    refine xV.br rfl (fun h2 => ?_) (fun h2 => absurd (by decide) h2)
    unfold rHop
    repeat' refine xV.step rfl ?_
    refine xV.br rfl (fun h3 => ?_) (fun h3 => ?_)
    · rw [if_pos h3]
      repeat' first
        | refine xV.step rfl ?_
        | refine xV.mget rfl rfl ?_
      exact xV.iret rfl rfl rfl (Or.inr ⟨hT, rfl, rfl⟩)
    · rw [if_neg h3]
      obtain ⟨e, hq2⟩ := hq hr h3
      repeat' first
        | refine xV.step rfl ?_
        | refine xV.mget rfl rfl ?_
        | refine xV.mi' (n := 5) rfl rfl rfl e hq2 ?_
      exact xV.iret rfl rfl rfl (Or.inr ⟨hT, rfl, rfl⟩)
theorem c_M_made {j l q : Nat} {c k w : Int32} (hc : isc A c = true → c = nI j ∧ j < 8 ∧ A.2.1 9 j = nI l ∧ l < 64) (hk : isc A c = true → 0 ≤ k ∧ k ≤ A.2.1 13 j - 1 → k = nI q ∧ q < 64) : xV D N0 mM_made (d + 3) 0 (xargs 5 [.ref m, .int c, .int k, .int w]) [] (hm m A h) (xTw (tMade A c k w j) (.returned (some (.int 0))) (hm m (mF A 0 (tMade A c k w j)) h) (.returned (some (.int (rMade A j l q w)))) (hm m (mF A 0 0) h)) := by
  have tl : ∀ t : Int32, t = 1 ∨ t = 2 → tMade A c k w j = t → xV D N0 mM_made (d + 3) 43 (xargs 5 [.ref m, .int c, .int k, .int w]) [.int t, .ref m] (hm m A h) (xTw (tMade A c k w j) (.returned (some (.int 0))) (hm m (mF A 0 (tMade A c k w j)) h) (.returned (some (.int (rMade A j l q w)))) (hm m (mF A 0 0) h)) := by
    intro t ht hT
    have h0 : t ≠ 0 ∧ ¬ t ≤ 0 := by rcases ht with rfl | rfl <;> exact ⟨by decide, by decide⟩
    refine xV.mput rfl rfl rfl (Nat.le_of_ble_eq_true rfl) ?_
    repeat' refine xV.step rfl ?_
    refine xV.mget (v := .int t) rfl rfl ?_
    refine xV.br rfl (fun h2 => absurd h2 h0.2) (fun h2 => ?_)
    repeat' refine xV.step rfl ?_
    exact xV.iret rfl rfl rfl (Or.inl ⟨by rw [hT]; exact h0.1, rfl, by rw [hT]⟩)
  have no : ¬ (isc A c = true ∧ (0 ≤ k ∧ k ≤ A.2.1 13 j - 1)) → xV D N0 mM_made (d + 3) 25 (xargs 5 [.ref m, .int c, .int k, .int w]) [.ref m] (hm m A h) (xTw (tMade A c k w j) (.returned (some (.int 0))) (hm m (mF A 0 (tMade A c k w j)) h) (.returned (some (.int (rMade A j l q w)))) (hm m (mF A 0 0) h)) := fun hz => by
    refine xV.step rfl ?_
    refine xV.step rfl ?_
    exact tl 1 (Or.inl rfl) (by unfold tMade; rw [if_neg hz])
  repeat' refine xV.step rfl ?_
  refine xV.cM rfl rfl g_mM_made_196 mM_isChannel_ok (Nat.le_of_ble_eq_true rfl) (Nat.le_of_ble_eq_true rfl) c_M_isChannel' ?_
  refine xV.br rfl (fun h1 => no (fun z => by rw [xB_f h1] at z; cases z.1)) (fun h1 => ?_)
  have h1' : isc A c = true := xB_t h1
  obtain ⟨rfl, hj, hl, hl2⟩ := hc h1'
  repeat' first
    | refine xV.step rfl ?_
    | refine xV.mget rfl rfl ?_
    | refine xV.mi (j := j) rfl rfl rfl hj ?_
  refine xV.cS rfl rfl g_mM_made_140 mM_isIn_ok (Nat.le_of_ble_eq_true rfl) (Nat.le_of_ble_eq_true rfl) c_M_isIn ?_
  refine xV.br rfl (fun h2 => no (fun z => of_decide_eq_false (xB_f h2) z.2)) (fun h2 => ?_)
  have h2' := of_decide_eq_true (xB_t h2)
  obtain ⟨rfl, hq2⟩ := hk h1' h2'
  repeat' refine xV.step rfl ?_
  refine xV.cS rfl rfl g_mM_made_140 mM_isIn_ok (Nat.le_of_ble_eq_true rfl) (Nat.le_of_ble_eq_true rfl) c_M_isIn ?_
  refine xV.br rfl (fun h3 => ?_) (fun h3 => ?_)
  · refine xV.step rfl ?_
    refine xV.step rfl ?_
    exact tl 2 (Or.inr rfl) (by unfold tMade; rw [if_pos ⟨h1', h2'⟩, if_neg (of_decide_eq_false (xB_f h3))])
  have hT : tMade A (nI j) (nI q) w j = 0 := by unfold tMade; rw [if_pos ⟨h1', h2'⟩, if_pos (of_decide_eq_true (xB_t h3))]
  refine xV.step rfl ?_
  refine xV.mput rfl rfl rfl (Nat.le_of_ble_eq_true rfl) ?_
  repeat' refine xV.step rfl ?_
  refine xV.mget (v := .int 0) rfl rfl ?_
  refine xV.br rfl (fun h9 => ?_) (fun h9 => absurd (by decide) h9)
  unfold rMade
  refine xV.step rfl ?_
  refine xV.step rfl ?_
  refine xV.step rfl ?_
  refine xV.step rfl ?_
  refine xV.step rfl ?_
  refine xV.step rfl ?_
  show xV D N0 mM_made (d + 3) 63 [some (.ref m), some (.int (nI j)), some (.int (nI q)), some (.int w), some (.int (64 * nI j + nI q))] _ _ _
  refine xV.step rfl ?_
  refine xV.br rfl (fun h4 => ?_) (fun h4 => ?_)
  · rw [if_pos h4]
    repeat' first
      | refine xV.step rfl ?_
      | refine xV.mget rfl rfl ?_
      | refine xV.mi' (n := 512) (j := 64 * j + q) rfl rfl rfl (xn_ix j q) (by omega) ?_
    refine xV.cM rfl rfl g_mM_made_192 mM_nodeOf_ok (Nat.le_of_ble_eq_true rfl) (Nat.le_of_ble_eq_true rfl) (c_M_nodeOf hj) ?_
    repeat' refine xV.step rfl ?_
    exact xV.iret rfl rfl rfl (Or.inr ⟨hT, rfl, rfl⟩)
  rw [if_neg h4]
  repeat' refine xV.step rfl ?_
  refine xV.br rfl (fun h5 => ?_) (fun h5 => ?_)
  · rw [if_pos h5]
    repeat' first
      | refine xV.step rfl ?_
      | refine xV.mget rfl rfl ?_
      | refine xV.mi' (n := 512) (j := 64 * j + q) rfl rfl rfl (xn_ix j q) (by omega) ?_
    exact xV.iret rfl rfl rfl (Or.inr ⟨hT, rfl, rfl⟩)
  rw [if_neg h5]
  repeat' refine xV.step rfl ?_
  refine xV.br rfl (fun h6 => ?_) (fun h6 => ?_)
  · rw [if_pos h6]
    repeat' first
      | refine xV.step rfl ?_
      | refine xV.mget rfl rfl ?_
      | refine xV.mi' (n := 512) (j := 64 * j + q) rfl rfl rfl (xn_ix j q) (by omega) ?_
    exact xV.iret rfl rfl rfl (Or.inr ⟨hT, rfl, rfl⟩)
  rw [if_neg h6]
  repeat' refine xV.step rfl ?_
  refine xV.cM rfl rfl g_mM_made_182 mM_now_ok (Nat.le_of_ble_eq_true rfl) (Nat.le_of_ble_eq_true rfl) (c_M_now (A := mF A 0 0) hj hl hl2) ?_
  repeat' refine xV.step rfl ?_
  refine xV.cS rfl rfl g_mM_made_218 mM_hasBit_ok (Nat.le_of_ble_eq_true rfl) (Nat.le_of_ble_eq_true rfl) c_M_hasBit ?_
  refine xV.br rfl (fun h7 => ?_) (fun h7 => ?_)
  · repeat' refine xV.step rfl ?_
    refine xV.iret rfl rfl rfl (Or.inr ⟨hT, ?_, rfl⟩)
    rw [show mbit (mnow A j l) (nI q) = false from xB_f h7]; rfl
  · repeat' refine xV.step rfl ?_
    refine xV.iret rfl rfl rfl (Or.inr ⟨hT, ?_, rfl⟩)
    rw [show mbit (mnow A j l) (nI q) = true from xB_t h7]; rfl
end X30
