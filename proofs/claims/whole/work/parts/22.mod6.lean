/- Part 22: public methods of the model: nodes and secrets. -/
/-- two ends: t is not 0, or it is -/
def xTw (t : Int32) (o1 : Outcome) (u1 : XH) (o0 : Outcome) (u0 : XH) : Outcome → XH → Prop := fun o u => (t ≠ 0 ∧ o = o1 ∧ u = u1) ∨ (t = 0 ∧ o = o0 ∧ u = u0)
def nd (v : Int32) : Bool := decide (0 ≤ v ∧ v ≤ 5)
def tNd (v : Int32) : Int32 := if nd v = true then 0 else 1
def tTell (A : MS) (K : Nat) (n : Int32) (s : Int64) : Int32 := if nd n = true then (if mhas A K (lk s) = true then 0 else 2) else 1
def tFees (n b q e : Int32) : Int32 := if nd n = true then (if (0 ≤ b ∧ b ≤ 10000) ∧ (0 ≤ q ∧ q ≤ 1000000) ∧ (1 ≤ e ∧ e ≤ 100) then 0 else 2) else 1
theorem nd_nat {v : Int32} (h : nd v = true) : ∃ j, j < 6 ∧ v = nI j := by
  obtain ⟨h1, h2⟩ := of_decide_eq_true h
  rw [Int32.le_iff_toInt_le] at h1 h2
  have e0 : (0 : Int32).toInt = 0 := rfl
  have e5 : (5 : Int32).toInt = 5 := rfl
  exact xn_of (by omega) (by omega) (by omega)
section X22
variable {D : va_G} {N0 : Nat} {d m : Nat} {h : XH} {A : MS}
theorem xB_f {b : Bool} (hb : xB b = 0) : b = false := xB_ne.mp hb
theorem xB_t {b : Bool} (hb : ¬ xB b = 0) : b = true := by cases b; exact absurd rfl hb; rfl
theorem c_M_isNode' {v : Int32} : xV D N0 mM_isNode (d + 1) 0 (xargs 1 [.int v]) [] h (xEq (.returned (some (.int (xB (nd v))))) h) := c_M_isNode
theorem c_M_tell {K : Nat} (hK : A.1 25 = nI K) (hK2 : K ≤ 24) {n : Int32} {s : Int64} : xV D N0 mM_tell (d + 2) 0 (xargs 6 [.ref m, .int n, .long s]) [] (hm m A h)
    (xTw (tTell A K n s) (.returned (some (.long 0))) (hm m (mF A 0 (tTell A K n s)) h) (.returned (some (.long (lk s)))) (hm m (mlearn (mF A 0 0) K (lk s) ((1 : Int32) <<< (n &&& 31))) h)) := by
  repeat' refine xV.step rfl ?_
  refine xV.cS rfl rfl g_mM_tell_158 mM_lockOf_ok (Nat.le_of_ble_eq_true rfl) (Nat.le_of_ble_eq_true rfl) c_M_lockOf ?_
  repeat' refine xV.step rfl ?_
  refine xV.cS rfl rfl g_mM_tell_162 mM_isNode_ok (Nat.le_of_ble_eq_true rfl) (Nat.le_of_ble_eq_true rfl) c_M_isNode' ?_
  refine xV.br rfl (fun h1 => ?_) (fun h1 => ?_)
  · have ht : tTell A K n s = 1 := by unfold tTell; rw [xB_f h1]; rfl
    repeat' refine xV.step rfl ?_
    refine xV.mput rfl rfl rfl (Nat.le_of_ble_eq_true rfl) ?_
    repeat' refine xV.step rfl ?_
    refine xV.mget (v := .int 1) rfl rfl ?_
    refine xV.br rfl (fun h2 => absurd h2 (by decide)) (fun h2 => ?_)
    repeat' refine xV.step rfl ?_
    exact xV.lret rfl rfl (Or.inl ⟨by rw [ht]; decide, rfl, by rw [ht]⟩)
  · repeat' refine xV.step rfl ?_
    refine xV.cM rfl rfl g_mM_tell_166 mM_hasRoom_ok (Nat.le_of_ble_eq_true rfl) (Nat.le_of_ble_eq_true rfl) (c_M_hasRoom hK hK2) ?_
    refine xV.br rfl (fun h3 => ?_) (fun h3 => ?_)
    · have ht : tTell A K n s = 2 := by unfold tTell; rw [xB_t h1, xB_f h3]; rfl
      repeat' refine xV.step rfl ?_
      refine xV.mput rfl rfl rfl (Nat.le_of_ble_eq_true rfl) ?_
      repeat' refine xV.step rfl ?_
      refine xV.mget (v := .int 2) rfl rfl ?_
      refine xV.br rfl (fun h2 => absurd h2 (by decide)) (fun h2 => ?_)
      repeat' refine xV.step rfl ?_
      exact xV.lret rfl rfl (Or.inl ⟨by rw [ht]; decide, rfl, by rw [ht]⟩)
    · have ht : tTell A K n s = 0 := by unfold tTell; rw [xB_t h1, xB_t h3]; rfl
      repeat' refine xV.step rfl ?_
      refine xV.mput rfl rfl rfl (Nat.le_of_ble_eq_true rfl) ?_
      repeat' refine xV.step rfl ?_
      refine xV.mget (v := .int 0) rfl rfl ?_
      refine xV.br rfl (fun h2 => ?_) (fun h2 => absurd (by decide) h2)
      repeat' refine xV.step rfl ?_
      refine xV.cM rfl rfl g_mM_tell_170 mM_learn_ok (Nat.le_of_ble_eq_true rfl) (Nat.le_of_ble_eq_true rfl) (c_M_learn (A := mF A 0 0) (K := K) hK hK2 (xB_t h3)) ?_
      repeat' refine xV.step rfl ?_
      exact xV.lret rfl rfl (Or.inr ⟨ht, rfl, rfl⟩)
end X22
