/- Part 24: the model opens a channel. -/
def tOpen (A : MS) (f s a b : Int32) : Int32 := if nd f = true ∧ nd s = true then (if f = s ∨ a < 0 ∨ b < 0 ∨ (a = 0 ∧ b = 0) then 2 else if A.1 7 = 8 ∨ A.2.1 1 f.toNatClampNeg < a ∨ A.2.1 1 s.toNatClampNeg < b then 3 else 0) else 1
def mopen (A : MS) (n f s : Nat) (a b : Int32) : MS :=
  let A1 := mI (mI (mF (mF A 0 0) 7 (nI n + 1)) 6 n (nI f)) 7 n (nI s)
  let A2 := mI A1 1 f (A1.2.1 1 f - a)
  let A3 := mI A2 1 s (A2.2.1 1 s - b)
  mI (mI (mI A3 10 (2 * (64 * n + 0) + 0) a) 10 (2 * (64 * n + 0) + 1) b) 12 n (a + b)
section X24
variable {D : va_G} {N0 : Nat} {d m : Nat} {h : XH} {A : MS}
theorem nd_in {v : Int32} (hv : nd v = true) : vp_in v 6 := by
  obtain ⟨j, hj, rfl⟩ := nd_nat hv
  exact xn_in hj (by omega)
theorem c_M_open {n f s : Nat} {a b : Int32} {fi si : Int32} (hn : A.1 7 = nI n) (hn2 : n ≤ 8) (hf : nd fi = true → fi = nI f ∧ f < 6) (hs : nd si = true → si = nI s ∧ s < 6) :
    xV D N0 mM_open (d + 2) 0 (xargs 6 [.ref m, .int fi, .int si, .int a, .int b]) [] (hm m A h) (xTw (tOpen A fi si a b) (.returned (some (.int 0))) (hm m (mF A 0 (tOpen A fi si a b)) h) (.returned (some (.int (nI n)))) (hm m (mopen A n f s a b) h)) := by
  have tl : ∀ t : Int32, t = 1 ∨ t = 2 ∨ t = 3 → tOpen A fi si a b = t → xV D N0 mM_open (d + 2) 81 (xargs 6 [.ref m, .int fi, .int si, .int a, .int b]) [.int t, .ref m] (hm m A h) (xTw (tOpen A fi si a b) (.returned (some (.int 0))) (hm m (mF A 0 (tOpen A fi si a b)) h) (.returned (some (.int (nI n)))) (hm m (mopen A n f s a b) h)) := by
    intro t ht hT
    have h0 : t ≠ 0 ∧ ¬ t ≤ 0 := by rcases ht with rfl | rfl | rfl <;> exact ⟨by decide, by decide⟩
    refine xV.mput rfl rfl rfl (Nat.le_of_ble_eq_true rfl) ?_
    repeat' refine xV.step rfl ?_
    refine xV.mget (v := .int t) rfl rfl ?_
    refine xV.br rfl (fun h2 => absurd h2 h0.2) (fun h2 => ?_)
    repeat' refine xV.step rfl ?_
    exact xV.iret rfl rfl rfl (Or.inl ⟨by rw [hT]; exact h0.1, rfl, by rw [hT]⟩)
  repeat' refine xV.step rfl ?_
  refine xV.cS rfl rfl g_mM_open_162 mM_isNode_ok (Nat.le_of_ble_eq_true rfl) (Nat.le_of_ble_eq_true rfl) c_M_isNode' ?_
  refine xV.br rfl (fun h1 => ?_) (fun h1 => ?_)
  · refine xV.step rfl ?_
    refine xV.step rfl ?_
    exact tl 1 (Or.inl rfl) (by unfold tOpen; rw [if_neg (fun z => by rw [xB_f h1] at z; cases z.1)])
  repeat' refine xV.step rfl ?_
  refine xV.cS rfl rfl g_mM_open_162 mM_isNode_ok (Nat.le_of_ble_eq_true rfl) (Nat.le_of_ble_eq_true rfl) c_M_isNode' ?_
  refine xV.br rfl (fun h2 => ?_) (fun h2 => ?_)
  · refine xV.step rfl ?_
    refine xV.step rfl ?_
    exact tl 1 (Or.inl rfl) (by unfold tOpen; rw [if_neg (fun z => by rw [xB_f h2] at z; cases z.2)])
  have e2 : (f = f ∨ True) := Or.inl rfl
  have two : (fi = si ∨ a < 0 ∨ b < 0 ∨ (a = 0 ∧ b = 0)) → xV D N0 mM_open (d + 2) 42 (xargs 6 [.ref m, .int fi, .int si, .int a, .int b]) [.ref m] (hm m A h) (xTw (tOpen A fi si a b) (.returned (some (.int 0))) (hm m (mF A 0 (tOpen A fi si a b)) h) (.returned (some (.int (nI n)))) (hm m (mopen A n f s a b) h)) := fun hz => by
    refine xV.step rfl ?_
    refine xV.step rfl ?_
    exact tl 2 (Or.inr (Or.inl rfl)) (by unfold tOpen; rw [if_pos ⟨xB_t h1, xB_t h2⟩, if_pos hz])
  obtain ⟨ef, hf6⟩ := hf (xB_t h1)
  obtain ⟨es, hs6⟩ := hs (xB_t h2)
  have three : ¬ (fi = si ∨ a < 0 ∨ b < 0 ∨ (a = 0 ∧ b = 0)) → xV D N0 mM_open (d + 2) 46 (xargs 6 [.ref m, .int fi, .int si, .int a, .int b]) [.ref m] (hm m A h) (xTw (tOpen A fi si a b) (.returned (some (.int 0))) (hm m (mF A 0 (tOpen A fi si a b)) h) (.returned (some (.int (nI n)))) (hm m (mopen A n f s a b) h)) := fun hz => by
    have thr : (A.1 7 = 8 ∨ A.2.1 1 fi.toNatClampNeg < a ∨ A.2.1 1 si.toNatClampNeg < b) → xV D N0 mM_open (d + 2) 76 (xargs 6 [.ref m, .int fi, .int si, .int a, .int b]) [.ref m] (hm m A h) (xTw (tOpen A fi si a b) (.returned (some (.int 0))) (hm m (mF A 0 (tOpen A fi si a b)) h) (.returned (some (.int (nI n)))) (hm m (mopen A n f s a b) h)) := fun hy => by
      refine xV.step rfl ?_
      refine xV.step rfl ?_
      exact tl 3 (Or.inr (Or.inr rfl)) (by unfold tOpen; rw [if_pos ⟨xB_t h1, xB_t h2⟩, if_neg hz, if_pos hy])
    repeat' first
      | refine xV.step rfl ?_
      | refine xV.mget rfl rfl ?_
    refine xV.br rfl (fun h3 => thr (Or.inl h3)) (fun h3 => ?_)
    repeat' first
      | refine xV.step rfl ?_
      | refine xV.mget rfl rfl ?_
      | refine xV.mild (n := 6) rfl rfl (Nat.le_of_ble_eq_true rfl) (nd_in (xB_t h1)) ?_
    refine xV.br rfl (fun h4 => thr (Or.inr (Or.inl h4))) (fun h4 => ?_)
    repeat' first
      | refine xV.step rfl ?_
      | refine xV.mget rfl rfl ?_
      | refine xV.mild (n := 6) rfl rfl (Nat.le_of_ble_eq_true rfl) (nd_in (xB_t h2)) ?_
    refine xV.br rfl (fun h5 => ?_) (fun h5 => thr (Or.inr (Or.inr (by simp only [Int32.lt_iff_toInt_lt, Int32.le_iff_toInt_le] at *; omega))))
    have hT : tOpen A fi si a b = 0 := by
      unfold tOpen
      rw [if_pos ⟨xB_t h1, xB_t h2⟩, if_neg hz, if_neg]
      rintro (hy | hy | hy)
      · exact h3 hy
      · exact h4 hy
      · simp only [Int32.lt_iff_toInt_lt, Int32.le_iff_toInt_le] at *; omega
    have hn8 : n < 8 := by
      rcases Nat.lt_or_ge n 8 with z | z
      · exact z
      · exact absurd (by rw [hn, show n = 8 by omega]; rfl) h3
    subst ef; subst es
    refine xV.step rfl ?_
    refine xV.mput rfl rfl rfl (Nat.le_of_ble_eq_true rfl) ?_
    repeat' refine xV.step rfl ?_
    refine xV.mget (v := .int 0) rfl rfl ?_
    refine xV.br rfl (fun h6 => ?_) (fun h6 => absurd (by decide) h6)
    repeat' refine xV.step rfl ?_
    refine xV.mget (v := .int (A.1 7)) rfl rfl ?_
    rw [hn]
    repeat' refine xV.step rfl ?_
    refine xV.mget (v := .int (A.1 7)) rfl rfl ?_
    rw [hn]
    repeat' refine xV.step rfl ?_
    refine xV.mput rfl rfl rfl (Nat.le_of_ble_eq_true rfl) ?_
    repeat' first
      | refine xV.step rfl ?_
      | refine xV.mget rfl rfl ?_
      | refine xV.si (j := n) rfl rfl rfl rfl hn8 ?_
      | refine xV.mi (j := f) rfl rfl rfl hf6 ?_
      | refine xV.si (j := f) rfl rfl rfl rfl hf6 ?_
      | refine xV.mi (j := s) rfl rfl rfl hs6 ?_
      | refine xV.si (j := s) rfl rfl rfl rfl hs6 ?_
    refine xV.cS rfl rfl g_mM_open_178 mM_cell_ok (Nat.le_of_ble_eq_true rfl) (Nat.le_of_ble_eq_true rfl) c_M_cell ?_
    repeat' refine xV.step rfl ?_
    refine xV.si' (n := 1024) rfl rfl rfl rfl (xn_cell n 0 0) (by omega) ?_
    repeat' first
      | refine xV.step rfl ?_
      | refine xV.mget rfl rfl ?_
    refine xV.cS rfl rfl g_mM_open_178 mM_cell_ok (Nat.le_of_ble_eq_true rfl) (Nat.le_of_ble_eq_true rfl) c_M_cell ?_
    repeat' refine xV.step rfl ?_
    refine xV.si' (n := 1024) rfl rfl rfl rfl (xn_cell n 0 1) (by omega) ?_
    repeat' first
      | refine xV.step rfl ?_
      | refine xV.mget rfl rfl ?_
      | refine xV.si (j := n) rfl rfl rfl rfl hn8 ?_
    exact xV.iret rfl rfl rfl (Or.inr ⟨hT, rfl, rfl⟩)
  repeat' refine xV.step rfl ?_
  refine xV.br rfl (fun h3 => two (Or.inl h3)) (fun h3 => ?_)
  repeat' refine xV.step rfl ?_
  refine xV.br rfl (fun h4 => two (Or.inr (Or.inl h4))) (fun h4 => ?_)
  repeat' refine xV.step rfl ?_
  refine xV.br rfl (fun h5 => two (Or.inr (Or.inr (Or.inl h5)))) (fun h5 => ?_)
  repeat' refine xV.step rfl ?_
  refine xV.br rfl (fun h6 => ?_) (fun h6 => three (by rintro (z | z | z | z); exact h3 z; exact h4 z; exact h5 z; exact h6 z.1))
  repeat' refine xV.step rfl ?_
  exact xV.br rfl (fun h7 => two (Or.inr (Or.inr (Or.inr ⟨h6, h7⟩)))) (fun h7 => three (by rintro (z | z | z | z); exact h3 z; exact h4 z; exact h5 z; exact h7 z.2))
end X24
