/- Part 32: the model: backward, step. -/
def bmay (A : MS) (p b c l q : Nat) : Prop := A.2.1 8 c = 0 ∧ mbit (mnow A c l) (nI q) = true ∧ (A.2.1 30 p = 2 ∨ ¬ A.2.1 39 (5 * p + b) ≤ A.1 6)
def bend (A : MS) (p c l q K : Nat) : MS := if A.2.1 30 p = 1 then mkeep (mI A 33 p (A.2.1 33 p + 1)) c l q K else mdrop (mI A 33 p (A.2.1 33 p + 1)) c l q
/-- the payment goes one channel back -/
def bback (A : MS) (p : Nat) : MS :=
  let A2 := mI A 32 p (A.2.1 32 p - 1)
  mI A2 29 p (if A2.2.1 32 p = 0 then 3 else A2.2.1 29 p)
def tStep (A : MS) (p : Int32) (j : Nat) : Int32 := if isp A p = true then (if A.2.1 29 j = 3 then 2 else 0) else 1
section X32
variable {D : va_G} {N0 : Nat} {d m : Nat} {h : XH} {A : MS}
theorem c_M_back_tail {p : Nat} (hp : p < 16) {LV : XL} (e0 : xnth LV 0 = some (.ref m)) {Q : Outcome → XH → Prop} (hQ : Q (.returned (some (.int ((bback A p).2.1 29 p)))) (hm m (bback A p) h)) {x y z w : Option Value} (hLV : LV = [some (.ref m), some (.int (nI p)), x, y, z, w]) : xV D N0 mM_backward (d + 3) 142 LV [] (hm m A h) Q := by
  subst hLV
  repeat' first
    | refine xV.step rfl ?_
    | refine xV.mget rfl rfl ?_
    | refine xV.mi (j := p) rfl rfl rfl hp ?_
    | refine xV.si (j := p) rfl rfl rfl rfl hp ?_
  have fin : ∀ v : Int32, (if (mI A 32 p (A.2.1 32 p - 1)).2.1 32 p = 0 then 3 else (mI A 32 p (A.2.1 32 p - 1)).2.1 29 p) = v → xV D N0 mM_backward (d + 3) 176 [some (.ref m), some (.int (nI p)), x, y, z, w] [.int v, .int (nI p), .ref (m + 29)] (hm m (mI A 32 p (A.2.1 32 p - 1)) h) Q := by
    intro v hv
    refine xV.si (j := p) rfl rfl rfl rfl hp ?_
    have hv2 : bback A p = mI (mI A 32 p (A.2.1 32 p - 1)) 29 p v := by
      unfold bback
      simp only
      rw [hv]
    rw [hv2] at hQ
    repeat' first
      | refine xV.step rfl ?_
      | refine xV.mget rfl rfl ?_
      | refine xV.mi (j := p) rfl rfl rfl hp ?_
    exact xV.iret rfl rfl rfl hQ
  refine xV.br rfl (fun h1 => ?_) (fun h1 => ?_)
  · refine xV.step rfl ?_
    refine xV.step rfl ?_
    exact fin 3 (if_pos h1)
  · repeat' first
      | exact fin _ (if_neg h1)
      | refine xV.step rfl ?_
      | refine xV.mget rfl rfl ?_
      | refine xV.mi (j := p) rfl rfl rfl hp ?_
theorem c_M_backward {p b c l q K : Nat} (hp : p < 16) (hb : A.2.1 32 p = nI (b + 1)) (hb5 : b < 5) (hc : A.2.1 37 (5 * p + b) = nI c) (hc8 : c < 8) (hl : A.2.1 9 c = nI l) (hl2 : l < 64) (hq : A.2.1 40 (5 * p + b) = nI q) (hq2 : q < 64) (hK : A.1 25 = nI K) (hK2 : K ≤ 24) (hr : A.2.1 30 p = 1 → mhas A K (A.2.2 16 (64 * c + q)) = true) :
    xV D N0 mM_backward (d + 3) 0 (xargs 6 [.ref m, .int (nI p)]) [] (hm m A h) (fun o u => (bmay A p b c l q ∧ ¬ A.2.1 9 c + 1 < 64 ∧ o = .returned (some (.int 0)) ∧ u = hm m (mF A 0 2) h) ∨
      (bmay A p b c l q ∧ A.2.1 9 c + 1 < 64 ∧ o = .returned (some (.int ((bback (bend A p c l q K) p).2.1 29 p))) ∧ u = hm m (bback (bend A p c l q K) p) h) ∨
      (¬ bmay A p b c l q ∧ o = .returned (some (.int ((bback A p).2.1 29 p))) ∧ u = hm m (bback A p) h)) := by
  show xV D N0 mM_backward (d + 3) 0 [some (.ref m), some (.int (nI p)), none, none, none, none] _ _ _
  repeat' first
    | refine xV.step rfl ?_
    | refine xV.mget rfl rfl ?_
    | refine xV.mi (j := p) rfl rfl rfl hp ?_
  have hix : (5 : Int32) * nI p + A.2.1 32 p - 1 = nI (5 * p + b) := by
    rw [hb, xn_ix5, show 5 * p + (b + 1) = (5 * p + b) + 1 by omega, xn_pred]
  rw [hix]
  refine xV.mi (n := 80) (j := 5 * p + b) rfl rfl rfl (by omega) ?_
  rw [hc]
  refine xV.step rfl ?_
  show xV D N0 mM_backward (d + 3) 20 [some (.ref m), some (.int (nI p)), some (.int (nI (5 * p + b))), some (.int (nI c)), none, none] _ _ _
  repeat' first
    | refine xV.step rfl ?_
    | refine xV.mget rfl rfl ?_
  refine xV.mi (n := 80) (j := 5 * p + b) rfl rfl rfl (by omega) ?_
  rw [hq]
  refine xV.step rfl ?_
  show xV D N0 mM_backward (d + 3) 28 [some (.ref m), some (.int (nI p)), some (.int (nI (5 * p + b))), some (.int (nI c)), some (.int (nI q)), none] _ _ _
  have no : ¬ bmay A p b c l q → xV D N0 mM_backward (d + 3) 77 [some (.ref m), some (.int (nI p)), some (.int (nI (5 * p + b))), some (.int (nI c)), some (.int (nI q)), none] [] (hm m A h) (fun o u => (bmay A p b c l q ∧ ¬ A.2.1 9 c + 1 < 64 ∧ o = .returned (some (.int 0)) ∧ u = hm m (mF A 0 2) h) ∨
      (bmay A p b c l q ∧ A.2.1 9 c + 1 < 64 ∧ o = .returned (some (.int ((bback (bend A p c l q K) p).2.1 29 p))) ∧ u = hm m (bback (bend A p c l q K) p) h) ∨
      (¬ bmay A p b c l q ∧ o = .returned (some (.int ((bback A p).2.1 29 p))) ∧ u = hm m (bback A p) h)) := fun hz => by
    refine xV.step rfl ?_
    refine xV.step rfl ?_
    show xV D N0 mM_backward (d + 3) 80 [some (.ref m), some (.int (nI p)), some (.int (nI (5 * p + b))), some (.int (nI c)), some (.int (nI q)), some (.int 0)] _ _ _
    refine xV.step rfl ?_
    refine xV.br rfl (fun h2 => ?_) (fun h2 => absurd rfl h2)
    refine xV.step rfl ?_
    refine xV.br rfl (fun h2 => ?_) (fun h2 => absurd rfl h2)
    exact c_M_back_tail hp rfl (Or.inr (Or.inr ⟨hz, rfl, rfl⟩)) rfl
  have yes : bmay A p b c l q → xV D N0 mM_backward (d + 3) 73 [some (.ref m), some (.int (nI p)), some (.int (nI (5 * p + b))), some (.int (nI c)), some (.int (nI q)), none] [] (hm m A h) (fun o u => (bmay A p b c l q ∧ ¬ A.2.1 9 c + 1 < 64 ∧ o = .returned (some (.int 0)) ∧ u = hm m (mF A 0 2) h) ∨
      (bmay A p b c l q ∧ A.2.1 9 c + 1 < 64 ∧ o = .returned (some (.int ((bback (bend A p c l q K) p).2.1 29 p))) ∧ u = hm m (bback (bend A p c l q K) p) h) ∨
      (¬ bmay A p b c l q ∧ o = .returned (some (.int ((bback A p).2.1 29 p))) ∧ u = hm m (bback A p) h)) := fun hz => by
    refine xV.step rfl ?_
    refine xV.step rfl ?_
    refine xV.step rfl ?_
    show xV D N0 mM_backward (d + 3) 80 [some (.ref m), some (.int (nI p)), some (.int (nI (5 * p + b))), some (.int (nI c)), some (.int (nI q)), some (.int 1)] _ _ _
    refine xV.step rfl ?_
    refine xV.br rfl (fun h2 => absurd h2 (by decide)) (fun h2 => ?_)
    repeat' refine xV.step rfl ?_
    refine xV.cM rfl rfl g_mM_backward_205 mM_hasState_ok (Nat.le_of_ble_eq_true rfl) (Nat.le_of_ble_eq_true rfl) (c_M_hasState hc8) ?_
    refine xV.br rfl (fun h3 => ?_) (fun h3 => ?_)
    · repeat' refine xV.step rfl ?_
      refine xV.mput rfl rfl rfl (Nat.le_of_ble_eq_true rfl) ?_
      repeat' refine xV.step rfl ?_
      exact xV.iret rfl rfl rfl (Or.inl ⟨hz, of_decide_eq_false (xB_f h3), rfl, rfl⟩)
    have h3' := of_decide_eq_true (xB_t h3)
    have hl3 : l < 63 := lat_lt hl2 (by rw [← hl]; exact h3')
    refine xV.step rfl ?_
    refine xV.br rfl (fun h2 => absurd h2 (by decide)) (fun h2 => ?_)
    repeat' first
      | refine xV.step rfl ?_
      | refine xV.mget rfl rfl ?_
      | refine xV.mi (j := p) rfl rfl rfl hp ?_
      | refine xV.si (j := p) rfl rfl rfl rfl hp ?_
    refine xV.br rfl (fun h4 => ?_) (fun h4 => ?_)
    · have e : bend A p c l q K = mkeep (mI A 33 p (A.2.1 33 p + 1)) c l q K := if_pos h4
      repeat' refine xV.step rfl ?_
      refine xV.cM rfl rfl g_mM_backward_222 mM_keepPromise_ok (Nat.le_of_ble_eq_true rfl) (Nat.le_of_ble_eq_true rfl) (c_M_keepPromise (A := mI A 33 p (A.2.1 33 p + 1)) hc8 hl hl3 hq2 hK hK2 (hr h4)) ?_
      refine xV.step rfl ?_
      exact c_M_back_tail hp rfl (Or.inr (Or.inl ⟨hz, h3', by rw [e], by rw [e]⟩)) rfl
    · have e : bend A p c l q K = mdrop (mI A 33 p (A.2.1 33 p + 1)) c l q := if_neg h4
      repeat' refine xV.step rfl ?_
      refine xV.cM rfl rfl g_mM_backward_226 mM_dropPromise_ok (Nat.le_of_ble_eq_true rfl) (Nat.le_of_ble_eq_true rfl) (c_M_dropPromise (A := mI A 33 p (A.2.1 33 p + 1)) hc8 hl hl3 hq2) ?_
      exact c_M_back_tail hp rfl (Or.inr (Or.inl ⟨hz, h3', by rw [e], by rw [e]⟩)) rfl
  repeat' first
    | refine xV.step rfl ?_
    | refine xV.mget rfl rfl ?_
    | refine xV.mi (j := c) rfl rfl rfl hc8 ?_
  refine xV.br rfl (fun h1 => ?_) (fun h1 => no (fun z => h1 z.1))
  repeat' refine xV.step rfl ?_
  refine xV.cM rfl rfl g_mM_backward_182 mM_now_ok (Nat.le_of_ble_eq_true rfl) (Nat.le_of_ble_eq_true rfl) (c_M_now hc8 hl hl2) ?_
  repeat' refine xV.step rfl ?_
  refine xV.cS rfl rfl g_mM_backward_218 mM_hasBit_ok (Nat.le_of_ble_eq_true rfl) (Nat.le_of_ble_eq_true rfl) c_M_hasBit ?_
  refine xV.br rfl (fun h2 => no (fun z => by have := z.2.1; rw [show mbit (mnow A c l) (nI q) = false from xB_f h2] at this; cases this)) (fun h2 => ?_)
  have h2' : mbit (mnow A c l) (nI q) = true := xB_t h2
  repeat' first
    | refine xV.step rfl ?_
    | refine xV.mget rfl rfl ?_
    | refine xV.mi (j := p) rfl rfl rfl hp ?_
  refine xV.br rfl (fun h3 => yes ⟨h1, h2', Or.inl h3⟩) (fun h3 => ?_)
  repeat' first
    | refine xV.step rfl ?_
    | refine xV.mget rfl rfl ?_
  refine xV.mi (n := 80) (j := 5 * p + b) rfl rfl rfl (by omega) ?_
  repeat' first
    | refine xV.step rfl ?_
    | refine xV.mget rfl rfl ?_
  exact xV.br rfl (fun h4 => no (fun z => z.2.2.elim (fun y => h3 y) (fun y => y h4))) (fun h4 => yes ⟨h1, h2', Or.inr h4⟩)
end X32
