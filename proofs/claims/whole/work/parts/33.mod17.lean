/- Part 33: the model: step, state. -/
def tState (A : MS) (c s w : Int32) (j : Nat) : Int32 := if isc A c = true ∧ (0 ≤ s ∧ s ≤ A.2.1 9 j) then (if 0 ≤ w ∧ w ≤ 3 then 0 else 2) else 1
def stN (A : MS) (j s : Nat) : Nat → Int32
  | 0 => 0
  | k + 1 => if mbit (A.2.2 11 (64 * j + s)) (nI k) = true then stN A j s k + 1 else stN A j s k
def stS (A : MS) (j s : Nat) : Nat → Int32
  | 0 => 0
  | k + 1 => if mbit (A.2.2 11 (64 * j + s)) (nI k) = true then stS A j s k + A.2.1 15 (64 * j + k) else stS A j s k
def rState (A : MS) (j s P : Nat) (w : Int32) : Int32 := if w < 2 then A.2.1 10 (2 * (64 * j + s) + w.toNatClampNeg) else if w = 2 then stN A j s P else stS A j s P
theorem stN_F (A : MS) (i : Nat) (x : Int32) (j s : Nat) : ∀ k, stN (mF A i x) j s k = stN A j s k
  | 0 => rfl
  | k + 1 => by
    show (if mbit (A.2.2 11 (64 * j + s)) (nI k) = true then stN (mF A i x) j s k + 1 else stN (mF A i x) j s k) = (if mbit (A.2.2 11 (64 * j + s)) (nI k) = true then stN A j s k + 1 else stN A j s k)
    rw [stN_F A i x j s k]
theorem stS_F (A : MS) (i : Nat) (x : Int32) (j s : Nat) : ∀ k, stS (mF A i x) j s k = stS A j s k
  | 0 => rfl
  | k + 1 => by
    show (if mbit (A.2.2 11 (64 * j + s)) (nI k) = true then stS (mF A i x) j s k + A.2.1 15 (64 * j + k) else stS (mF A i x) j s k) = (if mbit (A.2.2 11 (64 * j + s)) (nI k) = true then stS A j s k + A.2.1 15 (64 * j + k) else stS A j s k)
    rw [stS_F A i x j s k]
theorem rState_F (A : MS) (i : Nat) (x : Int32) (j s P : Nat) (w : Int32) : rState (mF A i x) j s P w = rState A j s P w := by
  unfold rState
  rw [stN_F, stS_F]
  rfl
section X33
variable {D : va_G} {N0 : Nat} {d m : Nat} {h : XH} {A : MS}
theorem c_M_step {j : Nat} {p : Int32} {Q : Outcome → XH → Prop} (hp : isp A p = true → p = nI j ∧ j < 16) (h1 : tStep A p j ≠ 0 → Q (.returned (some (.int 0))) (hm m (mF A 0 (tStep A p j)) h))
    (hf : isp A p = true → tStep A p j = 0 → A.2.1 29 j = 0 → xV D N0 mM_forward (d + 3) 0 (xargs 6 [.ref m, .int (nI j)]) [] (hm m (mF A 0 0) h) (fun o u => (∃ r : Int32, o = .returned (some (.int r))) ∧ Q o u))
    (hb : isp A p = true → tStep A p j = 0 → A.2.1 29 j ≠ 0 → xV D N0 mM_backward (d + 3) 0 (xargs 6 [.ref m, .int (nI j)]) [] (hm m (mF A 0 0) h) (fun o u => (∃ r : Int32, o = .returned (some (.int r))) ∧ Q o u)) :
    xV D N0 mM_step (d + 4) 0 (xargs 2 [.ref m, .int p]) [] (hm m A h) Q := by
  have tl : ∀ t : Int32, t = 1 ∨ t = 2 → tStep A p j = t → xV D N0 mM_step (d + 4) 34 (xargs 2 [.ref m, .int p]) [.int t, .ref m] (hm m A h) Q := by
    intro t ht hT
    have h0 : t ≠ 0 ∧ ¬ t ≤ 0 := by rcases ht with rfl | rfl <;> exact ⟨by decide, by decide⟩
    refine xV.mput rfl rfl rfl (Nat.le_of_ble_eq_true rfl) ?_
    repeat' refine xV.step rfl ?_
    refine xV.mget (v := .int t) rfl rfl ?_
    refine xV.br rfl (fun h2 => absurd h2 h0.2) (fun h2 => ?_)
    repeat' refine xV.step rfl ?_
    have := h1 (by rw [hT]; exact h0.1)
    rw [hT] at this
    exact xV.iret rfl rfl rfl this
  repeat' first
    | refine xV.step rfl ?_
    | refine xV.mget rfl rfl ?_
  refine xV.cS rfl rfl g_mM_step_140 mM_isIn_ok (Nat.le_of_ble_eq_true rfl) (Nat.le_of_ble_eq_true rfl) c_M_isIn ?_
  refine xV.br rfl (fun h2 => ?_) (fun h2 => ?_)
  · refine xV.step rfl ?_
    refine xV.step rfl ?_
    exact tl 1 (Or.inl rfl) (by unfold tStep; rw [if_neg (by rw [show isp A p = false from xB_f h2]; decide)])
  have h2' : isp A p = true := xB_t h2
  obtain ⟨rfl, hj⟩ := hp h2'
  repeat' first
    | refine xV.step rfl ?_
    | refine xV.mget rfl rfl ?_
    | refine xV.mi (j := j) rfl rfl rfl hj ?_
  refine xV.br rfl (fun h3 => ?_) (fun h3 => ?_)
  · refine xV.step rfl ?_
    refine xV.step rfl ?_
    exact tl 2 (Or.inr rfl) (by unfold tStep; rw [if_pos h2', if_pos h3])
  have hT : tStep A (nI j) j = 0 := by unfold tStep; rw [if_pos h2', if_neg h3]
  refine xV.step rfl ?_
  refine xV.mput rfl rfl rfl (Nat.le_of_ble_eq_true rfl) ?_
  repeat' refine xV.step rfl ?_
  refine xV.mget (v := .int 0) rfl rfl ?_
  refine xV.br rfl (fun h9 => ?_) (fun h9 => absurd (by decide) h9)
  repeat' first
    | refine xV.step rfl ?_
    | refine xV.mget rfl rfl ?_
    | refine xV.mi (j := j) rfl rfl rfl hj ?_
  refine xV.br rfl (fun h4 => ?_) (fun h4 => ?_)
  · repeat' refine xV.step rfl ?_
    refine xV.callV (q := ("ChannelNetModel", xTM, 48)) rfl rfl (hm_get0 m _ h) rfl g_mM_step_263 mM_forward_ok (Nat.le_of_ble_eq_true rfl) (Nat.le_of_ble_eq_true rfl) (hf h2' hT h4) ?_ ?_
    · rintro v u ⟨⟨r, e⟩, hq⟩
      cases e
      repeat' refine xV.step rfl ?_
      exact xV.iret rfl rfl rfl hq
    · rintro a u ⟨⟨r, e⟩, hq⟩
      cases e
  · repeat' refine xV.step rfl ?_
    refine xV.callV (q := ("ChannelNetModel", xTM, 48)) rfl rfl (hm_get0 m _ h) rfl g_mM_step_267 mM_backward_ok (Nat.le_of_ble_eq_true rfl) (Nat.le_of_ble_eq_true rfl) (hb h2' hT h4) ?_ ?_
    · rintro v u ⟨⟨r, e⟩, hq⟩
      cases e
      exact xV.iret rfl rfl rfl hq
    · rintro a u ⟨⟨r, e⟩, hq⟩
      cases e
theorem c_M_state_loop {j s P : Nat} {w : Int32} (hj : j < 8) (hs : s < 64) (hP : A.2.1 13 j = nI P) (hP2 : P ≤ 64) {Q : Outcome → XH → Prop} (hw : ¬ w < 2) (hQ : Q (.returned (some (.int (rState A j s P w)))) (hm m A h)) :
    ∀ n k y, k + n = P → xV D N0 mM_state (d + 3) 79 [some (.ref m), some (.int (nI j)), some (.int (nI s)), some (.int w), some (.int (stN A j s k)), some (.int (stS A j s k)), some (.int (nI k)), y] [] (hm m A h) Q := by
  intro n
  induction n with
  | zero =>
    intro k y hk
    obtain rfl : k = P := by omega
    repeat' first
      | refine xV.step rfl ?_
      | refine xV.mget rfl rfl ?_
      | refine xV.mi (j := j) rfl rfl rfl hj ?_
    rw [hP]
    refine xV.br rfl (fun h1 => ?_) (fun h1 => absurd ((xn_le (by omega) (by omega)).mpr (Nat.le_refl _)) h1)
    repeat' refine xV.step rfl ?_
    unfold rState at hQ
    rw [if_neg hw] at hQ
    refine xV.br rfl (fun h2 => ?_) (fun h2 => ?_)
    · rw [if_pos h2] at hQ
      repeat' refine xV.step rfl ?_
      exact xV.iret rfl rfl rfl hQ
    · rw [if_neg h2] at hQ
      repeat' refine xV.step rfl ?_
      exact xV.iret rfl rfl rfl hQ
  | succ n ih =>
    intro k y hk
    repeat' first
      | refine xV.step rfl ?_
      | refine xV.mget rfl rfl ?_
      | refine xV.mi (j := j) rfl rfl rfl hj ?_
    rw [hP]
    refine xV.br rfl (fun h1 => ?_) (fun h1 => ?_)
    · rw [xn_le (by omega) (by omega)] at h1
      omega
    repeat' first
      | refine xV.step rfl ?_
      | refine xV.mget rfl rfl ?_
      | refine xV.mj' (n := 512) (j := 64 * j + s) rfl rfl rfl (xn_ix j s) (by omega) ?_
    refine xV.cS rfl rfl g_mM_state_218 mM_hasBit_ok (Nat.le_of_ble_eq_true rfl) (Nat.le_of_ble_eq_true rfl) c_M_hasBit ?_
    have ih := fun y => ih (k + 1) y (by omega)
    rw [← xn_succ] at ih
    unfold stN stS at ih
    refine xV.step rfl ?_
    cases hbt : mbit (A.2.2 11 (64 * j + s)) (nI k) with
    | false =>
      rw [hbt] at ih
      simp only [Bool.false_eq_true, if_false] at ih
      show xV D N0 mM_state (d + 3) 108 [some (.ref m), some (.int (nI j)), some (.int (nI s)), some (.int w), some (.int (stN A j s k)), some (.int (stS A j s k)), some (.int (nI k)), some (.int (xB false))] _ _ _
      refine xV.step rfl ?_
      refine xV.br rfl (fun h2 => ?_) (fun h2 => absurd rfl h2)
      refine xV.step rfl ?_
      refine xV.step rfl ?_
      show xV D N0 mM_state (d + 3) 124 [some (.ref m), some (.int (nI j)), some (.int (nI s)), some (.int w), some (.int (stN A j s k)), some (.int (stS A j s k)), some (.int (nI k)), some (.int (xB false))] _ _ _
      refine xV.step rfl ?_
      refine xV.br rfl (fun h2 => ?_) (fun h2 => absurd rfl h2)
      refine xV.step rfl ?_
      refine xV.step rfl ?_
      refine xV.step rfl ?_
      refine xV.step rfl ?_
      exact ih _
    | true =>
      rw [hbt] at ih
      simp only [if_true] at ih
      show xV D N0 mM_state (d + 3) 108 [some (.ref m), some (.int (nI j)), some (.int (nI s)), some (.int w), some (.int (stN A j s k)), some (.int (stS A j s k)), some (.int (nI k)), some (.int (xB true))] _ _ _
      refine xV.step rfl ?_
      refine xV.br rfl (fun h2 => absurd h2 (by decide)) (fun h2 => ?_)
      refine xV.step rfl ?_
      refine xV.step rfl ?_
      refine xV.step rfl ?_
      refine xV.step rfl ?_
      refine xV.step rfl ?_
      show xV D N0 mM_state (d + 3) 124 [some (.ref m), some (.int (nI j)), some (.int (nI s)), some (.int w), some (.int (stN A j s k + 1)), some (.int (stS A j s k)), some (.int (nI k)), some (.int (xB true))] _ _ _
      refine xV.step rfl ?_
      refine xV.br rfl (fun h2 => absurd h2 (by decide)) (fun h2 => ?_)
      repeat' first
        | refine xV.step rfl ?_
        | refine xV.mget rfl rfl ?_
      refine xV.mi' (n := 512) (j := 64 * j + k) rfl rfl rfl (xn_ix j k) (by omega) ?_
      refine xV.step rfl ?_
      refine xV.step rfl ?_
      refine xV.step rfl ?_
      refine xV.step rfl ?_
      refine xV.step rfl ?_
      exact ih _
theorem c_M_state {j q P : Nat} {c s w : Int32} (hc : isc A c = true → c = nI j ∧ j < 8 ∧ A.2.1 13 j = nI P ∧ P ≤ 64) (hk : isc A c = true → 0 ≤ s ∧ s ≤ A.2.1 9 j → s = nI q ∧ q < 64) : xV D N0 mM_state (d + 3) 0 (xargs 8 [.ref m, .int c, .int s, .int w]) [] (hm m A h) (xTw (tState A c s w j) (.returned (some (.int 0))) (hm m (mF A 0 (tState A c s w j)) h) (.returned (some (.int (rState A j q P w)))) (hm m (mF A 0 0) h)) := by
  have tl : ∀ t : Int32, t = 1 ∨ t = 2 → tState A c s w j = t → xV D N0 mM_state (d + 3) 41 [some (.ref m), some (.int c), some (.int s), some (.int w), none, none, none, none] [.int t, .ref m] (hm m A h) (xTw (tState A c s w j) (.returned (some (.int 0))) (hm m (mF A 0 (tState A c s w j)) h) (.returned (some (.int (rState A j q P w)))) (hm m (mF A 0 0) h)) := by
    intro t ht hT
    have h0 : t ≠ 0 ∧ ¬ t ≤ 0 := by rcases ht with rfl | rfl <;> exact ⟨by decide, by decide⟩
    refine xV.mput rfl rfl rfl (Nat.le_of_ble_eq_true rfl) ?_
    repeat' refine xV.step rfl ?_
    refine xV.mget (v := .int t) rfl rfl ?_
    refine xV.br rfl (fun h2 => absurd h2 h0.2) (fun h2 => ?_)
    repeat' refine xV.step rfl ?_
    exact xV.iret rfl rfl rfl (Or.inl ⟨by rw [hT]; exact h0.1, rfl, by rw [hT]⟩)
  have no : ¬ (isc A c = true ∧ (0 ≤ s ∧ s ≤ A.2.1 9 j)) → xV D N0 mM_state (d + 3) 23 [some (.ref m), some (.int c), some (.int s), some (.int w), none, none, none, none] [.ref m] (hm m A h) (xTw (tState A c s w j) (.returned (some (.int 0))) (hm m (mF A 0 (tState A c s w j)) h) (.returned (some (.int (rState A j q P w)))) (hm m (mF A 0 0) h)) := fun hz => by
    refine xV.step rfl ?_
    refine xV.step rfl ?_
    exact tl 1 (Or.inl rfl) (by unfold tState; rw [if_neg hz])
  show xV D N0 mM_state (d + 3) 0 [some (.ref m), some (.int c), some (.int s), some (.int w), none, none, none, none] _ _ _
  repeat' refine xV.step rfl ?_
  refine xV.cM rfl rfl g_mM_state_196 mM_isChannel_ok (Nat.le_of_ble_eq_true rfl) (Nat.le_of_ble_eq_true rfl) c_M_isChannel' ?_
  refine xV.br rfl (fun h1 => no (fun z => by rw [xB_f h1] at z; cases z.1)) (fun h1 => ?_)
  have h1' : isc A c = true := xB_t h1
  obtain ⟨rfl, hj, hP, hP2⟩ := hc h1'
  repeat' first
    | refine xV.step rfl ?_
    | refine xV.mget rfl rfl ?_
    | refine xV.mi (j := j) rfl rfl rfl hj ?_
  refine xV.cS rfl rfl g_mM_state_140 mM_isIn_ok (Nat.le_of_ble_eq_true rfl) (Nat.le_of_ble_eq_true rfl) c_M_isIn ?_
  refine xV.br rfl (fun h2 => no (fun z => of_decide_eq_false (xB_f h2) z.2)) (fun h2 => ?_)
  have h2' := of_decide_eq_true (xB_t h2)
  obtain ⟨rfl, hq2⟩ := hk h1' h2'
  repeat' refine xV.step rfl ?_
  refine xV.cS rfl rfl g_mM_state_140 mM_isIn_ok (Nat.le_of_ble_eq_true rfl) (Nat.le_of_ble_eq_true rfl) c_M_isIn ?_
  refine xV.br rfl (fun h3 => ?_) (fun h3 => ?_)
  · refine xV.step rfl ?_
    refine xV.step rfl ?_
    exact tl 2 (Or.inr rfl) (by unfold tState; rw [if_pos ⟨h1', h2'⟩, if_neg (of_decide_eq_false (xB_f h3))])
  have h3' := of_decide_eq_true (xB_t h3)
  have hT : tState A (nI j) (nI q) w j = 0 := by unfold tState; rw [if_pos ⟨h1', h2'⟩, if_pos h3']
  obtain ⟨wn, hw4, rfl⟩ : ∃ wn, wn < 4 ∧ w = nI wn := by
    obtain ⟨z1, z2⟩ := h3'
    rw [Int32.le_iff_toInt_le] at z1 z2
    have e0 : (0 : Int32).toInt = 0 := rfl
    have e5 : (3 : Int32).toInt = 3 := rfl
    exact xn_of (by omega) (by omega) (by omega)
  refine xV.step rfl ?_
  refine xV.mput rfl rfl rfl (Nat.le_of_ble_eq_true rfl) ?_
  repeat' refine xV.step rfl ?_
  refine xV.mget (v := .int 0) rfl rfl ?_
  refine xV.br rfl (fun h9 => ?_) (fun h9 => absurd (by decide) h9)
  repeat' refine xV.step rfl ?_
  refine xV.br rfl (fun h4 => ?_) (fun h4 => ?_)
  · have h4' : ¬ nI wn < 2 := by simp only [Int32.lt_iff_toInt_lt, Int32.le_iff_toInt_le] at *; omega
    refine xV.step rfl ?_
    refine xV.step rfl ?_
    refine xV.step rfl ?_
    refine xV.step rfl ?_
    refine xV.step rfl ?_
    refine xV.step rfl ?_
    exact c_M_state_loop (A := mF A 0 0) hj hq2 hP hP2 h4' (Or.inr ⟨hT, by rw [rState_F], rfl⟩) P 0 none (by omega)
  · have h4' : nI wn < 2 := by simp only [Int32.lt_iff_toInt_lt, Int32.le_iff_toInt_le] at *; omega
    have hw2 : wn < 2 := by
      rw [show (2 : Int32) = nI 2 from rfl, xn_lt (by omega) (by omega)] at h4'
      exact h4'
    repeat' first
      | refine xV.step rfl ?_
      | refine xV.mget rfl rfl ?_
    refine xV.cS rfl rfl g_mM_state_178 mM_cell_ok (Nat.le_of_ble_eq_true rfl) (Nat.le_of_ble_eq_true rfl) c_M_cell ?_
    refine xV.mi' (n := 1024) rfl rfl rfl (xn_cell j q wn) (by omega) ?_
    refine xV.iret rfl rfl rfl (Or.inr ⟨hT, ?_, rfl⟩)
    unfold rState
    rw [if_pos h4', xn_clamp (by omega)]
    rfl
end X33
