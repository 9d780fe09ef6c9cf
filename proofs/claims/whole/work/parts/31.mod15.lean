/- Part 31: the model: how payments go. -/
theorem xn_ix5 (p k : Nat) : (5 : Int32) * nI p + nI k = nI (5 * p + k) := by
  rw [show (5 : Int32) = nI 5 from rfl, xn_mul, xn_add]
theorem xn_pred (b : Nat) : nI (b + 1) - 1 = nI b := dec_ofNat b
def rturn (A : MS) (p : Nat) (w : Int32) : Int32 := if A.2.1 31 p = 0 then 3 else w
def mturn (A : MS) (p : Nat) (w : Int32) : MS := mI (mI (mI A 30 p w) 32 p (A.2.1 31 p)) 29 p (rturn A p w)
def mfw (A : MS) (p k c l s q K : Nat) : Int32 × MS :=
  if A.2.1 31 p = A.2.1 34 p then (rturn A p (if mknows A K (A.2.1 35 p) (A.2.2 36 p) = true then 1 else 2), mturn A p (if mknows A K (A.2.1 35 p) (A.2.2 36 p) = true then 1 else 2))
  else if mcarr A c l s (A.2.1 38 (5 * p + k)).toInt64 = false ∨ A.2.1 39 (5 * p + k) ≤ A.1 6 then (rturn A p 2, mturn A p 2)
  else if ¬ A.2.1 9 c + 1 < 64 then (0, mF A 0 2)
  else (0, mI (mI (madd A c l q (nI s) (A.2.1 38 (5 * p + k)) (A.2.2 36 p) (A.2.1 39 (5 * p + k))) 40 (5 * p + k) (nI q)) 31 p (A.2.1 31 p + 1))
section X31
variable {D : va_G} {N0 : Nat} {d m : Nat} {h : XH} {A : MS}
theorem c_M_turn {p : Nat} (hp : p < 16) {w : Int32} : xV D N0 mM_turn d 0 (xargs 3 [.ref m, .int (nI p), .int w]) [] (hm m A h) (xEq (.returned (some (.int (rturn A p w)))) (hm m (mturn A p w) h)) := by
  have fin : ∀ x : Int32, rturn A p w = x → xV D N0 mM_turn d 38 (xargs 3 [.ref m, .int (nI p), .int w]) [.int x, .int (nI p), .ref (m + 29)] (hm m (mI (mI A 30 p w) 32 p (A.2.1 31 p)) h) (xEq (.returned (some (.int (rturn A p w)))) (hm m (mturn A p w) h)) := by
    intro x hx
    unfold mturn
    rw [hx]
    refine xV.si (j := p) rfl rfl rfl rfl hp ?_
    repeat' first
      | refine xV.step rfl ?_
      | refine xV.mget rfl rfl ?_
      | refine xV.mi (j := p) rfl rfl rfl hp ?_
    refine xV.iret rfl rfl rfl ⟨?_, rfl⟩
    show Outcome.returned (some (.int (upd _ p x p))) = _
    simp [upd]
  repeat' first
    | refine xV.step rfl ?_
    | refine xV.mget rfl rfl ?_
    | refine xV.mi (j := p) rfl rfl rfl hp ?_
    | refine xV.si (j := p) rfl rfl rfl rfl hp ?_
  refine xV.br rfl (fun h1 => ?_) (fun h1 => ?_)
  · refine xV.step rfl ?_
    refine xV.step rfl ?_
    exact fin 3 (if_pos h1)
  · refine xV.step rfl ?_
    exact fin w (if_neg h1)
theorem c_M_forward {p k c l s q K : Nat} (hp : p < 16) (hk : A.2.1 31 p = nI k) (hK : A.1 25 = nI K) (hK2 : K ≤ 24)
    (H : A.2.1 31 p ≠ A.2.1 34 p → k < 5 ∧ A.2.1 37 (5 * p + k) = nI c ∧ c < 8 ∧ A.2.1 9 c = nI l ∧ l < 64 ∧ mside A c (A.2.1 41 (5 * p + k)) = nI s ∧ s < 2 ∧ A.2.1 13 c = nI q ∧ q < 64) :
    xV D N0 mM_forward (d + 3) 0 (xargs 6 [.ref m, .int (nI p)]) [] (hm m A h) (xEq (.returned (some (.int (mfw A p k c l s q K).1))) (hm m (mfw A p k c l s q K).2 h)) := by
  show xV D N0 mM_forward (d + 3) 0 [some (.ref m), some (.int (nI p)), none, none, none, none] _ _ _
  repeat' first
    | refine xV.step rfl ?_
    | refine xV.mget rfl rfl ?_
    | refine xV.mi (j := p) rfl rfl rfl hp ?_
  refine xV.br rfl (fun h1 => ?_) (fun h1 => ?_)
  · have e : mfw A p k c l s q K = (rturn A p (if mknows A K (A.2.1 35 p) (A.2.2 36 p) = true then 1 else 2), mturn A p (if mknows A K (A.2.1 35 p) (A.2.2 36 p) = true then 1 else 2)) := if_pos h1
    rw [e]
    repeat' first
      | refine xV.step rfl ?_
      | refine xV.mget rfl rfl ?_
      | refine xV.mi (j := p) rfl rfl rfl hp ?_
      | refine xV.mj (j := p) rfl rfl rfl hp ?_
    refine xV.cM rfl rfl g_mM_forward_174 mM_isKnown_ok (Nat.le_of_ble_eq_true rfl) (Nat.le_of_ble_eq_true rfl) (c_M_isKnown hK hK2) ?_
    refine xV.br rfl (fun h2 => ?_) (fun h2 => ?_)
    · rw [xB_f h2, if_neg (by decide)]
      repeat' refine xV.step rfl ?_
      refine xV.cM rfl rfl g_mM_forward_260 mM_turn_ok (Nat.le_of_ble_eq_true rfl) (Nat.le_of_ble_eq_true rfl) (c_M_turn hp) ?_
      exact xV.iret rfl rfl rfl ⟨rfl, rfl⟩
    · rw [xB_t h2, if_pos rfl]
      repeat' refine xV.step rfl ?_
      refine xV.cM rfl rfl g_mM_forward_260 mM_turn_ok (Nat.le_of_ble_eq_true rfl) (Nat.le_of_ble_eq_true rfl) (c_M_turn hp) ?_
      exact xV.iret rfl rfl rfl ⟨rfl, rfl⟩
  obtain ⟨hk5, hc, hc8, hl, hl2, hs, hs2, hq, hq2⟩ := H h1
  have hix := xn_ix5 p k
  rw [hk]
  refine xV.step rfl ?_
  refine xV.step rfl ?_
  refine xV.step rfl ?_
  refine xV.step rfl ?_
  refine xV.step rfl ?_
  refine xV.step rfl ?_
  show xV D N0 mM_forward (d + 3) 53 [some (.ref m), some (.int (nI p)), some (.int (nI k)), some (.int (5 * nI p + nI k)), none, none] _ _ _
  repeat' first
    | refine xV.step rfl ?_
    | refine xV.mget rfl rfl ?_
  refine xV.mi' (n := 80) (j := 5 * p + k) rfl rfl rfl hix (by omega) ?_
  rw [hc]
  refine xV.step rfl ?_
  show xV D N0 mM_forward (d + 3) 61 [some (.ref m), some (.int (nI p)), some (.int (nI k)), some (.int (5 * nI p + nI k)), some (.int (nI c)), none] _ _ _
  repeat' first
    | refine xV.step rfl ?_
    | refine xV.mget rfl rfl ?_
  refine xV.mi' (n := 80) (j := 5 * p + k) rfl rfl rfl hix (by omega) ?_
  refine xV.cM rfl rfl g_mM_forward_199 mM_sideOf_ok (Nat.le_of_ble_eq_true rfl) (Nat.le_of_ble_eq_true rfl) (c_M_sideOf hc8) ?_
  rw [hs]
  refine xV.step rfl ?_
  show xV D N0 mM_forward (d + 3) 75 [some (.ref m), some (.int (nI p)), some (.int (nI k)), some (.int (5 * nI p + nI k)), some (.int (nI c)), some (.int (nI s))] _ _ _
  repeat' first
    | refine xV.step rfl ?_
    | refine xV.mget rfl rfl ?_
  refine xV.mi' (n := 80) (j := 5 * p + k) rfl rfl rfl hix (by omega) ?_
  refine xV.step rfl ?_
  refine xV.cM rfl rfl g_mM_forward_239 mM_carries_ok (Nat.le_of_ble_eq_true rfl) (Nat.le_of_ble_eq_true rfl) (c_M_carries hc8 hl hl2 hs2) ?_
  have dro : (mcarr A c l s (A.2.1 38 (5 * p + k)).toInt64 = false ∨ A.2.1 39 (5 * p + k) ≤ A.1 6) → xV D N0 mM_forward (d + 3) 106 [some (.ref m), some (.int (nI p)), some (.int (nI k)), some (.int (5 * nI p + nI k)), some (.int (nI c)), some (.int (nI s))] [] (hm m A h) (xEq (.returned (some (.int (mfw A p k c l s q K).1))) (hm m (mfw A p k c l s q K).2 h)) := fun hz => by
    have e : mfw A p k c l s q K = (rturn A p 2, mturn A p 2) := (if_neg h1).trans (if_pos hz)
    rw [e]
    repeat' refine xV.step rfl ?_
    refine xV.cM rfl rfl g_mM_forward_260 mM_turn_ok (Nat.le_of_ble_eq_true rfl) (Nat.le_of_ble_eq_true rfl) (c_M_turn hp) ?_
    exact xV.iret rfl rfl rfl ⟨rfl, rfl⟩
  refine xV.br rfl (fun h2 => dro (Or.inl (xB_f h2))) (fun h2 => ?_)
  repeat' first
    | refine xV.step rfl ?_
    | refine xV.mget rfl rfl ?_
  refine xV.mi' (n := 80) (j := 5 * p + k) rfl rfl rfl hix (by omega) ?_
  repeat' first
    | refine xV.step rfl ?_
    | refine xV.mget rfl rfl ?_
  refine xV.br rfl (fun h3 => ?_) (fun h3 => dro (Or.inr (by simp only [Int32.lt_iff_toInt_lt, Int32.le_iff_toInt_le] at *; omega)))
  have hno : ¬ (mcarr A c l s (A.2.1 38 (5 * p + k)).toInt64 = false ∨ A.2.1 39 (5 * p + k) ≤ A.1 6) := by
    rintro (z | z)
    · rw [xB_t h2] at z; cases z
    · simp only [Int32.lt_iff_toInt_lt, Int32.le_iff_toInt_le] at *; omega
  repeat' refine xV.step rfl ?_
  refine xV.cM rfl rfl g_mM_forward_205 mM_hasState_ok (Nat.le_of_ble_eq_true rfl) (Nat.le_of_ble_eq_true rfl) (c_M_hasState hc8) ?_
  refine xV.br rfl (fun h4 => ?_) (fun h4 => ?_)
  · have e : mfw A p k c l s q K = (0, mF A 0 2) := (if_neg h1).trans ((if_neg hno).trans (if_pos (of_decide_eq_false (xB_f h4))))
    rw [e]
    repeat' refine xV.step rfl ?_
    refine xV.mput rfl rfl rfl (Nat.le_of_ble_eq_true rfl) ?_
    repeat' refine xV.step rfl ?_
    exact xV.iret rfl rfl rfl ⟨rfl, rfl⟩
  have h4' := of_decide_eq_true (xB_t h4)
  have e : mfw A p k c l s q K = (0, mI (mI (madd A c l q (nI s) (A.2.1 38 (5 * p + k)) (A.2.2 36 p) (A.2.1 39 (5 * p + k))) 40 (5 * p + k) (nI q)) 31 p (A.2.1 31 p + 1)) := (if_neg h1).trans ((if_neg hno).trans (if_neg (fun z => z h4')))
  rw [e]
  have hl3 : l < 63 := lat_lt hl2 (by rw [← hl]; exact h4')
  repeat' first
    | refine xV.step rfl ?_
    | refine xV.mget rfl rfl ?_
    | refine xV.mi' (n := 80) (j := 5 * p + k) rfl rfl rfl hix (by omega) ?_
    | refine xV.mj (j := p) rfl rfl rfl hp ?_
  refine xV.cM rfl rfl g_mM_forward_214 mM_addPromise_ok (Nat.le_of_ble_eq_true rfl) (Nat.le_of_ble_eq_true rfl) (c_M_addPromise hc8 hl hl3 hq hq2) ?_
  refine xV.si' (n := 80) (j := 5 * p + k) rfl rfl rfl rfl hix (by omega) ?_
  repeat' first
    | refine xV.step rfl ?_
    | refine xV.mget rfl rfl ?_
    | refine xV.mi (j := p) rfl rfl rfl hp ?_
    | refine xV.si (j := p) rfl rfl rfl rfl hp ?_
  exact xV.iret rfl rfl rfl ⟨rfl, rfl⟩
end X31
