/- Part 17: the model's small methods. -/
section X17
variable {D : va_G} {N0 : Nat} {d m : Nat} {h : XH} {A : MS}
theorem c_M_isIn {v a b : Int32} : xV D N0 mM_isIn d 0 (xargs 3 [.int v, .int a, .int b]) [] h (xEq (.returned (some (.int (xB (decide (a ≤ v ∧ v ≤ b)))))) h) := by
  repeat' first
    | refine xV.step rfl ?_
    | refine xV.br rfl (fun _ => ?_) (fun _ => ?_)
  all_goals refine xV.iret rfl rfl rfl ⟨?_, rfl⟩
  all_goals first
    | exact xB1 (by simp only [Int32.lt_iff_toInt_lt, Int32.le_iff_toInt_le] at *; omega)
    | exact xB0 (by simp only [Int32.lt_iff_toInt_lt, Int32.le_iff_toInt_le] at *; omega)
theorem c_M_isNode {v : Int32} : xV D N0 mM_isNode (d + 1) 0 (xargs 1 [.int v]) [] h (xEq (.returned (some (.int (xB (decide (0 ≤ v ∧ v ≤ 5)))))) h) := by
  repeat' refine xV.step rfl ?_
  refine xV.cS rfl rfl g_mM_isNode_140 mM_isIn_ok (Nat.le_of_ble_eq_true rfl) (Nat.le_of_ble_eq_true rfl) c_M_isIn ?_
  exact xV.iret rfl rfl (xB_nar _) ⟨rfl, rfl⟩
theorem c_M_isChannel {v : Int32} : xV D N0 mM_isChannel (d + 1) 0 (xargs 2 [.ref m, .int v]) [] (hm m A h) (xEq (.returned (some (.int (xB (decide (0 ≤ v ∧ v ≤ A.1 7 - 1)))))) (hm m A h)) := by
  repeat' refine xV.step rfl ?_
  refine xV.mget rfl rfl ?_
  repeat' refine xV.step rfl ?_
  refine xV.cS rfl rfl g_mM_isChannel_140 mM_isIn_ok (Nat.le_of_ble_eq_true rfl) (Nat.le_of_ble_eq_true rfl) c_M_isIn ?_
  exact xV.iret rfl rfl (xB_nar _) ⟨rfl, rfl⟩
end X17
