/- Part 17: the model's small methods. -/
section X17
variable {D : va_G} {N0 : Nat} {d m : Nat} {h : XH} {A : MS}
theorem c_M_isIn {v a b : Int32} : xV D N0 mM_isIn d 0 (xargs 3 [.int v, .int a, .int b]) [] h (xEq (.returned (some (.int (xB (decide (a ≤ v ∧ v ≤ b)))))) h) := by
  repeat' first
    | refine xV.step rfl ?_
    | refine xV.br rfl (fun _ => ?_) (fun _ => ?_)
  all_goals refine xV.iret rfl rfl rfl ⟨?_, rfl⟩
  all_goals first
    | exact xB1 (by simp only [Int32.lt_iff_toInt_lt, Int32.le_iff_toInt_le] at *; omega)
    | exact xB0 (by simp only [Int32.lt_iff_toInt_lt, Int32.le_iff_toInt_le] at *; omega)
theorem c_M_isNode {v : Int32} : xV D N0 mM_isNode (d + 1) 0 (xargs 1 [.int v]) [] h (xEq (.returned (some (.int (xB (decide (0 ≤ v ∧ v ≤ 5)))))) h) := by
  repeat' refine xV.step rfl ?_
  refine xV.cS rfl rfl g_mM_isNode_140 mM_isIn_ok (Nat.le_of_ble_eq_true rfl) (Nat.le_of_ble_eq_true rfl) c_M_isIn ?_
  exact xV.iret rfl rfl (xB_nar _) ⟨rfl, rfl⟩
theorem c_M_isChannel {v : Int32} : xV D N0 mM_isChannel (d + 1) 0 (xargs 2 [.ref m, .int v]) [] (hm m A h) (xEq (.returned (some (.int (xB (decide (0 ≤ v ∧ v ≤ A.1 7 - 1)))))) (hm m A h)) := by
  repeat' refine xV.step rfl ?_
  refine xV.mget rfl rfl ?_
  repeat' refine xV.step rfl ?_
  refine xV.cS rfl rfl g_mM_isChannel_140 mM_isIn_ok (Nat.le_of_ble_eq_true rfl) (Nat.le_of_ble_eq_true rfl) c_M_isIn ?_
  exact xV.iret rfl rfl (xB_nar _) ⟨rfl, rfl⟩
theorem c_M_lockOf {s : Int64} : xV D N0 mM_lockOf d 0 (xargs 4 [.long s]) [] h (xEq (.returned (some (.long (lk s)))) h) := by
  repeat' refine xV.step rfl ?_
  exact xV.lret rfl rfl ⟨rfl, rfl⟩
theorem c_M_find_loop {K : Nat} (hK : A.1 25 = nI K) (hK2 : K ≤ 24) {k : Int64} : ∀ n j, j + n = K →
    xV D N0 mM_find d 5 [some (.ref m), some (.long k), none, some (.int (oi (mfind (A.2.2 23) k j))), some (.int (nI j))] [] (hm m A h) (xEq (.returned (some (.int (oi (mfind (A.2.2 23) k K))))) (hm m A h)) := by
  intro n
  induction n with
  | zero =>
    intro j hj
    obtain rfl : j = K := by omega
    repeat' refine xV.step rfl ?_
    refine xV.mget rfl rfl ?_
    refine xV.br rfl (fun h1 => ?_) (fun h1 => ?_)
    · repeat' refine xV.step rfl ?_
      exact xV.iret rfl rfl rfl ⟨rfl, rfl⟩
    · rw [hK, xn_le (by omega) (by omega)] at h1
      omega
  | succ n ih =>
    intro j hj
    repeat' refine xV.step rfl ?_
    refine xV.mget rfl rfl ?_
    refine xV.br rfl (fun h1 => ?_) (fun h1 => ?_)
    · rw [hK, xn_le (by omega) (by omega)] at h1
      omega
    · repeat' refine xV.step rfl ?_
      refine xV.mget rfl rfl ?_
      repeat' refine xV.step rfl ?_
      refine xV.mjld (k := 23) (n := 24) rfl rfl (by omega) (xn_in (by omega) (by omega)) ?_
      rw [xn_clamp (by omega)]
      repeat' refine xV.step rfl ?_
      have hst : oi (mfind (A.2.2 23) k (j + 1)) = if A.2.2 23 j = k then nI j else oi (mfind (A.2.2 23) k j) := by
        show oi (if A.2.2 23 j = k then some j else mfind (A.2.2 23) k j) = _
        split <;> rfl
      have ih := ih (j + 1) (by omega)
      rw [hst, ← xn_succ] at ih
      refine xV.br rfl (fun h2 => ?_) (fun h2 => ?_)
      · rw [lg_cmp_eq0] at h2
        rw [if_pos h2] at ih
        repeat' first
          | exact ih
          | refine xV.step rfl ?_
      · rw [lg_cmp_eq0] at h2
        rw [if_neg h2] at ih
        repeat' first
          | exact ih
          | refine xV.step rfl ?_
theorem c_M_find {K : Nat} (hK : A.1 25 = nI K) (hK2 : K ≤ 24) {k : Int64} : xV D N0 mM_find d 0 (xargs 5 [.ref m, .long k]) [] (hm m A h) (xEq (.returned (some (.int (oi (mfind (A.2.2 23) k K))))) (hm m A h)) := by
  refine xV.step rfl ?_
  refine xV.step rfl ?_
  refine xV.step rfl ?_
  refine xV.step rfl ?_
  exact c_M_find_loop hK hK2 K 0 (by omega)
end X17
