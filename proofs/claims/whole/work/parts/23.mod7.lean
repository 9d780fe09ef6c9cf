/- Part 23: more public methods of the model. -/
section X23
variable {D : va_G} {N0 : Nat} {d m : Nat} {h : XH} {A : MS}
theorem tNd_f {v : Int32} (hv : xB (nd v) = 0) : tNd v = 1 := by unfold tNd; rw [xB_f hv]; rfl
theorem tNd_t {v : Int32} (hv : ¬ xB (nd v) = 0) : tNd v = 0 := by unfold tNd; rw [xB_t hv]; rfl
theorem c_M_thrown : xV D N0 mM_thrown d 0 (xargs 1 [.ref m]) [] (hm m A h) (xEq (.returned (some (.int (A.1 0)))) (hm m A h)) := by
  refine xV.step rfl ?_
  refine xV.mget rfl rfl ?_
  exact xV.iret rfl rfl rfl ⟨rfl, rfl⟩
theorem c_M_lock {s : Int64} : xV D N0 mM_lock (d + 1) 0 (xargs 3 [.ref m, .long s]) [] (hm m A h) (xEq (.returned (some (.long (lk s)))) (hm m (mF A 0 0) h)) := by
  repeat' refine xV.step rfl ?_
  refine xV.mput rfl rfl rfl (Nat.le_of_ble_eq_true rfl) ?_
  repeat' refine xV.step rfl ?_
  refine xV.cS rfl rfl g_mM_lock_158 mM_lockOf_ok (Nat.le_of_ble_eq_true rfl) (Nat.le_of_ble_eq_true rfl) c_M_lockOf ?_
  exact xV.lret rfl rfl ⟨rfl, rfl⟩
theorem c_M_height : xV D N0 mM_height d 0 (xargs 1 [.ref m]) [] (hm m A h) (xEq (.returned (some (.int (A.1 6)))) (hm m (mF A 0 0) h)) := by
  repeat' first
    | refine xV.step rfl ?_
    | refine xV.mput rfl rfl rfl (Nat.le_of_ble_eq_true rfl) ?_
    | refine xV.mget rfl rfl ?_
  exact xV.iret rfl rfl rfl ⟨rfl, rfl⟩
theorem c_M_channels : xV D N0 mM_channels d 0 (xargs 1 [.ref m]) [] (hm m A h) (xEq (.returned (some (.int (A.1 7)))) (hm m (mF A 0 0) h)) := by
  repeat' first
    | refine xV.step rfl ?_
    | refine xV.mput rfl rfl rfl (Nat.le_of_ble_eq_true rfl) ?_
    | refine xV.mget rfl rfl ?_
  exact xV.iret rfl rfl rfl ⟨rfl, rfl⟩
theorem c_M_coins {j : Nat} {n : Int32} (hn : nd n = true → n = nI j ∧ j < 6) : xV D N0 mM_coins (d + 2) 0 (xargs 2 [.ref m, .int n]) [] (hm m A h) (xTw (tNd n) (.returned (some (.int 0))) (hm m (mF A 0 1) h) (.returned (some (.int (A.2.1 1 j)))) (hm m (mF A 0 0) h)) := by
  repeat' refine xV.step rfl ?_
  refine xV.cS rfl rfl g_mM_coins_162 mM_isNode_ok (Nat.le_of_ble_eq_true rfl) (Nat.le_of_ble_eq_true rfl) c_M_isNode' ?_
  refine xV.br rfl (fun h1 => ?_) (fun h1 => ?_)
  · repeat' refine xV.step rfl ?_
    refine xV.mput rfl rfl rfl (Nat.le_of_ble_eq_true rfl) ?_
    repeat' refine xV.step rfl ?_
    refine xV.mget (v := .int 1) rfl rfl ?_
    refine xV.br rfl (fun h2 => absurd h2 (by decide)) (fun h2 => ?_)
    repeat' refine xV.step rfl ?_
    exact xV.iret rfl rfl rfl (Or.inl ⟨by rw [tNd_f h1]; decide, rfl, rfl⟩)
  · obtain ⟨e, hj⟩ := hn (xB_t h1)
    repeat' refine xV.step rfl ?_
    refine xV.mput rfl rfl rfl (Nat.le_of_ble_eq_true rfl) ?_
    repeat' refine xV.step rfl ?_
    refine xV.mget (v := .int 0) rfl rfl ?_
    refine xV.br rfl (fun h2 => ?_) (fun h2 => absurd (by decide) h2)
    repeat' refine xV.step rfl ?_
    refine xV.mget rfl rfl ?_
    repeat' refine xV.step rfl ?_
    refine xV.mi' (n := 6) rfl rfl rfl e hj ?_
    exact xV.iret rfl rfl rfl (Or.inr ⟨tNd_t h1, rfl, rfl⟩)
theorem c_M_watch {j : Nat} {n x : Int32} (hn : nd n = true → n = nI j ∧ j < 6) (hx : narrow .boolean (.int x) = .int x) : xV D N0 mM_watch (d + 2) 0 (xargs 3 [.ref m, .int n, .int x]) [] (hm m A h) (xTw (tNd n) (.returned none) (hm m (mF A 0 1) h) (.returned none) (hm m (mI (mF A 0 0) 5 j x) h)) := by
  repeat' refine xV.step rfl ?_
  refine xV.cS rfl rfl g_mM_watch_162 mM_isNode_ok (Nat.le_of_ble_eq_true rfl) (Nat.le_of_ble_eq_true rfl) c_M_isNode' ?_
  refine xV.br rfl (fun h1 => ?_) (fun h1 => ?_)
  · repeat' refine xV.step rfl ?_
    refine xV.mput rfl rfl rfl (Nat.le_of_ble_eq_true rfl) ?_
    repeat' refine xV.step rfl ?_
    refine xV.mget (v := .int 1) rfl rfl ?_
    refine xV.br rfl (fun h2 => absurd h2 (by decide)) (fun h2 => ?_)
    exact xV.vret rfl rfl (Or.inl ⟨by rw [tNd_f h1]; decide, rfl, rfl⟩)
  · obtain ⟨e, hj⟩ := hn (xB_t h1)
    subst e
    repeat' refine xV.step rfl ?_
    refine xV.mput rfl rfl rfl (Nat.le_of_ble_eq_true rfl) ?_
    repeat' refine xV.step rfl ?_
    refine xV.mget (v := .int 0) rfl rfl ?_
    refine xV.br rfl (fun h2 => ?_) (fun h2 => absurd rfl h2)
    repeat' refine xV.step rfl ?_
    refine xV.mget rfl rfl ?_
    repeat' refine xV.step rfl ?_
    refine xV.sz rfl rfl rfl rfl hj hx ?_
    exact xV.vret rfl rfl (Or.inr ⟨tNd_t h1, rfl, rfl⟩)
theorem c_M_knows {K : Nat} (hK : A.1 25 = nI K) (hK2 : K ≤ 24) {n : Int32} {k : Int64} : xV D N0 mM_knows (d + 2) 0 (xargs 4 [.ref m, .int n, .long k]) [] (hm m A h) (xTw (tNd n) (.returned (some (.int 0))) (hm m (mF A 0 1) h) (.returned (some (.int (xB (mknows A K n k))))) (hm m (mF A 0 0) h)) := by
  repeat' refine xV.step rfl ?_
  refine xV.cS rfl rfl g_mM_knows_162 mM_isNode_ok (Nat.le_of_ble_eq_true rfl) (Nat.le_of_ble_eq_true rfl) c_M_isNode' ?_
  refine xV.br rfl (fun h1 => ?_) (fun h1 => ?_)
  · repeat' refine xV.step rfl ?_
    refine xV.mput rfl rfl rfl (Nat.le_of_ble_eq_true rfl) ?_
    repeat' refine xV.step rfl ?_
    refine xV.mget (v := .int 1) rfl rfl ?_
    refine xV.br rfl (fun h2 => absurd h2 (by decide)) (fun h2 => ?_)
    repeat' refine xV.step rfl ?_
    exact xV.iret rfl rfl rfl (Or.inl ⟨by rw [tNd_f h1]; decide, rfl, rfl⟩)
  · repeat' refine xV.step rfl ?_
    refine xV.mput rfl rfl rfl (Nat.le_of_ble_eq_true rfl) ?_
    repeat' refine xV.step rfl ?_
    refine xV.mget (v := .int 0) rfl rfl ?_
    refine xV.br rfl (fun h2 => ?_) (fun h2 => absurd rfl h2)
    repeat' refine xV.step rfl ?_
    refine xV.cM rfl rfl g_mM_knows_174 mM_isKnown_ok (Nat.le_of_ble_eq_true rfl) (Nat.le_of_ble_eq_true rfl) (c_M_isKnown (A := mF A 0 0) (K := K) hK hK2) ?_
    refine xV.br rfl (fun h3 => ?_) (fun h3 => ?_)
    · repeat' refine xV.step rfl ?_
      refine xV.iret rfl rfl rfl (Or.inr ⟨tNd_t h1, ?_, rfl⟩)
      rw [show mknows A K n k = false from xB_f h3]; rfl
    · repeat' refine xV.step rfl ?_
      refine xV.iret rfl rfl rfl (Or.inr ⟨tNd_t h1, ?_, rfl⟩)
      rw [show mknows A K n k = true from xB_t h3]; rfl
theorem c_M_fees {j : Nat} {n b q e : Int32} (hn : nd n = true → n = nI j ∧ j < 6) : xV D N0 mM_fees (d + 2) 0 (xargs 5 [.ref m, .int n, .int b, .int q, .int e]) [] (hm m A h) (xTw (tFees n b q e) (.returned none) (hm m (mF A 0 (tFees n b q e)) h) (.returned none) (hm m (mI (mI (mI (mF A 0 0) 2 j b) 3 j q) 4 j e) h)) := by
  have tl : ∀ t : Int32, t = 1 ∨ t = 2 → tFees n b q e = t → xV D N0 mM_fees (d + 2) 49 (xargs 5 [.ref m, .int n, .int b, .int q, .int e]) [.int t, .ref m] (hm m A h) (xTw (tFees n b q e) (.returned none) (hm m (mF A 0 (tFees n b q e)) h) (.returned none) (hm m (mI (mI (mI (mF A 0 0) 2 j b) 3 j q) 4 j e) h)) := by
    intro t ht hT
    refine xV.mput rfl rfl rfl (Nat.le_of_ble_eq_true rfl) ?_
    repeat' refine xV.step rfl ?_
    refine xV.mget (v := .int t) rfl rfl ?_
    refine xV.br rfl (fun h2 => ?_) (fun h2 => ?_)
    · rcases ht with rfl | rfl <;> exact absurd h2 (by decide)
    · exact xV.vret rfl rfl (Or.inl ⟨by rw [hT]; exact h2, rfl, by rw [hT]⟩)
  repeat' refine xV.step rfl ?_
  refine xV.cS rfl rfl g_mM_fees_162 mM_isNode_ok (Nat.le_of_ble_eq_true rfl) (Nat.le_of_ble_eq_true rfl) c_M_isNode' ?_
  refine xV.br rfl (fun h1 => ?_) (fun h1 => ?_)
  · refine xV.step rfl ?_
    refine xV.step rfl ?_
    exact tl 1 (Or.inl rfl) (by unfold tFees; rw [xB_f h1]; rfl)
  · obtain ⟨e1, hj⟩ := hn (xB_t h1)
    repeat' refine xV.step rfl ?_
    refine xV.cS rfl rfl g_mM_fees_140 mM_isIn_ok (Nat.le_of_ble_eq_true rfl) (Nat.le_of_ble_eq_true rfl) c_M_isIn ?_
    refine xV.br rfl (fun h3 => ?_) (fun h3 => ?_)
    · refine xV.step rfl ?_
      exact tl 2 (Or.inr rfl) (by unfold tFees; rw [if_pos (xB_t h1), if_neg (fun z => of_decide_eq_false (xB_f h3) z.1)])
    repeat' refine xV.step rfl ?_
    refine xV.cS rfl rfl g_mM_fees_140 mM_isIn_ok (Nat.le_of_ble_eq_true rfl) (Nat.le_of_ble_eq_true rfl) c_M_isIn ?_
    refine xV.br rfl (fun h4 => ?_) (fun h4 => ?_)
    · refine xV.step rfl ?_
      exact tl 2 (Or.inr rfl) (by unfold tFees; rw [if_pos (xB_t h1), if_neg (fun z => of_decide_eq_false (xB_f h4) z.2.1)])
    repeat' refine xV.step rfl ?_
    refine xV.cS rfl rfl g_mM_fees_140 mM_isIn_ok (Nat.le_of_ble_eq_true rfl) (Nat.le_of_ble_eq_true rfl) c_M_isIn ?_
    refine xV.br rfl (fun h5 => ?_) (fun h5 => ?_)
    · refine xV.step rfl ?_
      exact tl 2 (Or.inr rfl) (by unfold tFees; rw [if_pos (xB_t h1), if_neg (fun z => of_decide_eq_false (xB_f h5) z.2.2)])
    have hT : tFees n b q e = 0 := by unfold tFees; rw [if_pos (xB_t h1), if_pos ⟨of_decide_eq_true (xB_t h3), of_decide_eq_true (xB_t h4), of_decide_eq_true (xB_t h5)⟩]
    subst e1
    repeat' refine xV.step rfl ?_
    refine xV.mput rfl rfl rfl (Nat.le_of_ble_eq_true rfl) ?_
    repeat' refine xV.step rfl ?_
    refine xV.mget (v := .int 0) rfl rfl ?_
    refine xV.br rfl (fun h2 => ?_) (fun h2 => absurd rfl h2)
    repeat' first
      | refine xV.step rfl ?_
      | refine xV.mget rfl rfl ?_
      | refine xV.si rfl rfl rfl rfl hj ?_
    exact xV.vret rfl rfl (Or.inr ⟨hT, rfl, rfl⟩)
end X23
