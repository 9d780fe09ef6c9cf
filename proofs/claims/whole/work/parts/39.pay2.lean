/- Part 39: the model: pay. -/
def pEnd (m : Nat) (h : XH) (A : MS) (S : SP) (P : Nat) (to : Int32) (lo : Int64) (dl : Int32) : Outcome → XH → Prop := fun o u => ∃ A2, sSame A A2 ∧ RepB A2.1 (A2.2.1 25) S ∧ ((S = [] ∧ o = .returned (some (.int (-1))) ∧ u = hm m A2 h) ∨ (S ≠ [] ∧ o = .returned (some (.int (nI P))) ∧ u = hm m (mpay A2 P to lo dl S) h))
section X39
variable {D : va_G} {N0 : Nat} {M : XM} {d m : Nat} {h : XH} {A : MS} {L : Nat → Nat} {C : Nat} {fr to am : Int32}
theorem c_M_pay (hA : sOK A L C) {P : Nat} (hP : A.1 34 = nI P) (hP2 : P ≤ 16) {lo : Int64} {dl : Int32} :
    xV D N0 mM_pay (d + 4) 0 (xargs 15 [.ref m, .int fr, .int to, .int am, .long lo, .int dl]) [] (hm m A h) (xTe (tPay A fr to am dl) (.returned (some (.int 0))) (hm m (mF A 0 (tPay A fr to am dl)) h) (pEnd m h (mF A 0 0) (sres (mF A 0 0) L C fr to am) P to lo dl)) := by
  have tl : ∀ t : Int32, t = 1 ∨ t = 2 ∨ t = 3 → tPay A fr to am dl = t → xV D N0 mM_pay (d + 4) 59 (xargs 15 [.ref m, .int fr, .int to, .int am, .long lo, .int dl]) [.int t, .ref m] (hm m A h) (xTe (tPay A fr to am dl) (.returned (some (.int 0))) (hm m (mF A 0 (tPay A fr to am dl)) h) (pEnd m h (mF A 0 0) (sres (mF A 0 0) L C fr to am) P to lo dl)) := by
    intro t ht hT
    have h0 : t ≠ 0 ∧ ¬ t ≤ 0 := by rcases ht with rfl | rfl | rfl <;> exact ⟨by decide, by decide⟩
    refine xV.mput rfl rfl rfl (Nat.le_of_ble_eq_true rfl) ?_
    repeat' refine xV.step rfl ?_
    refine xV.mget (v := .int t) rfl rfl ?_
    refine xV.br rfl (fun h2 => absurd h2 h0.2) (fun h2 => ?_)
    repeat' refine xV.step rfl ?_
    exact xV.iret rfl rfl rfl (Or.inl ⟨by rw [hT]; exact h0.1, rfl, by rw [hT]⟩)
  have no : ¬ (nd fr = true ∧ nd to = true) → xV D N0 mM_pay (d + 4) 15 (xargs 15 [.ref m, .int fr, .int to, .int am, .long lo, .int dl]) [.ref m] (hm m A h) (xTe (tPay A fr to am dl) (.returned (some (.int 0))) (hm m (mF A 0 (tPay A fr to am dl)) h) (pEnd m h (mF A 0 0) (sres (mF A 0 0) L C fr to am) P to lo dl)) := fun hz => by
    refine xV.step rfl ?_
    refine xV.step rfl ?_
    exact tl 1 (Or.inl rfl) (by unfold tPay; rw [if_neg hz])
  repeat' refine xV.step rfl ?_
  refine xV.cS rfl rfl g_mM_pay_162 mM_isNode_ok (Nat.le_of_ble_eq_true rfl) (Nat.le_of_ble_eq_true rfl) c_M_isNode' ?_
  refine xV.br rfl (fun h1 => no (fun z => by rw [xB_f h1] at z; cases z.1)) (fun h1 => ?_)
  repeat' refine xV.step rfl ?_
  refine xV.cS rfl rfl g_mM_pay_162 mM_isNode_ok (Nat.le_of_ble_eq_true rfl) (Nat.le_of_ble_eq_true rfl) c_M_isNode' ?_
  refine xV.br rfl (fun h2 => no (fun z => by rw [xB_f h2] at z; cases z.2)) (fun h2 => ?_)
  have two : ¬ (ispr fr to am = true ∧ 0 ≤ dl ∧ dl ≤ 1000000000) → xV D N0 mM_pay (d + 4) 41 (xargs 15 [.ref m, .int fr, .int to, .int am, .long lo, .int dl]) [.ref m] (hm m A h) (xTe (tPay A fr to am dl) (.returned (some (.int 0))) (hm m (mF A 0 (tPay A fr to am dl)) h) (pEnd m h (mF A 0 0) (sres (mF A 0 0) L C fr to am) P to lo dl)) := fun hz => by
    refine xV.step rfl ?_
    refine xV.step rfl ?_
    exact tl 2 (Or.inr (Or.inl rfl)) (by unfold tPay; rw [if_pos ⟨xB_t h1, xB_t h2⟩, if_neg hz])
  repeat' refine xV.step rfl ?_
  refine xV.cM rfl rfl g_mM_pay_249 mM_isProper_ok (Nat.le_of_ble_eq_true rfl) (Nat.le_of_ble_eq_true rfl) c_M_isProper ?_
  refine xV.br rfl (fun h3 => two (fun z => by rw [xB_f h3] at z; cases z.1)) (fun h3 => ?_)
  repeat' refine xV.step rfl ?_
  refine xV.cS rfl rfl g_mM_pay_140 mM_isIn_ok (Nat.le_of_ble_eq_true rfl) (Nat.le_of_ble_eq_true rfl) c_M_isIn ?_
  refine xV.br rfl (fun h4 => two (fun z => of_decide_eq_false (xB_f h4) z.2)) (fun h4 => ?_)
  have hok : ispr fr to am = true ∧ 0 ≤ dl ∧ dl ≤ 1000000000 := ⟨xB_t h3, of_decide_eq_true (xB_t h4)⟩
  refine xV.step rfl ?_
  refine xV.mget rfl rfl ?_
  refine xV.step rfl ?_
  refine xV.br rfl (fun h5 => ?_) (fun h5 => ?_)
  · refine xV.step rfl ?_
    refine xV.step rfl ?_
    exact tl 3 (Or.inr (Or.inr rfl)) (by unfold tPay; rw [if_pos ⟨xB_t h1, xB_t h2⟩, if_pos hok, if_pos h5])
  have hT : tPay A fr to am dl = 0 := by unfold tPay; rw [if_pos ⟨xB_t h1, xB_t h2⟩, if_pos hok, if_neg h5]
  have hP3 : P < 16 := by
    rcases Nat.lt_or_ge P 16 with hz | hz
    · exact hz
    · obtain rfl : P = 16 := by omega
      exact absurd hP h5
  have ham : 0 ≤ am.toInt := by
    have hz := (of_decide_eq_true (xB_t h3)).2.1
    rw [Int32.le_iff_toInt_le] at hz
    have : (1 : Int32).toInt = 1 := rfl
    omega
  refine xV.step rfl ?_
  refine xV.mput rfl rfl rfl (Nat.le_of_ble_eq_true rfl) ?_
  repeat' refine xV.step rfl ?_
  refine xV.mget (v := .int 0) rfl rfl ?_
  refine xV.br rfl (fun h4 => ?_) (fun h4 => absurd (by decide) h4)
  repeat' refine xV.step rfl ?_
  refine xV.cE rfl rfl g_mM_pay_252 mM_search_ok (Nat.le_of_ble_eq_true rfl) (Nat.le_of_ble_eq_true rfl) (c_M_search (A := mF A 0 0) hA ham) (fun A2 c1 c2 => ?_)
  have hg : sgood (mF A 0 0) C to am.toInt64 (sres (mF A 0 0) L C fr to am) := sgood_res
  refine xV.step rfl ?_
  refine xV.mget rfl rfl ?_
  rw [c2.1]
  generalize hS : sres (mF A 0 0) L C fr to am = S at *
  have hN := c2.2.1
  have hP' : A2.1 34 = nI P := by rw [c1.1 34 (by omega) (by omega)]; exact hP
  by_cases hS0 : S = []
  · rw [hS0]
    refine xV.br rfl (fun h5 => ?_) (fun h5 => absurd rfl h5)
    repeat' refine xV.step rfl ?_
    exact xV.iret rfl rfl rfl (Or.inr ⟨hT, A2, c1, by rw [← hS0]; exact c2, Or.inl ⟨rfl, rfl, rfl⟩⟩)
  · have hl : S.length ≠ 0 := fun z => hS0 (List.eq_nil_of_length_eq_zero z)
    refine xV.br rfl (fun h5 => ?_) (fun h5 => ?_)
    · rw [show (0 : Int32) = nI 0 from rfl, xn_inj (by omega) (by omega)] at h5
      exact absurd h5 hl
    have key := c_M_pay_loop (D := D) (N0 := N0) (d := d) (m := m) (h := h) (am := am) (to := to) (A := mF A 0 0) (L := L) (C := C) hA hP3 hN (S := S) (lo := lo) (v1 := fr) (v3 := am) (dl := dl) rfl hg (A0 := mJ (mI (mI (mF A2 34 (nI P + 1)) 34 P (nI S.length)) 35 P to) 36 P lo) (fun k h1 h2 h3 h4 => by
      show (mI (mI (mF A2 34 (nI P + 1)) 34 P (nI S.length)) 35 P to).2.1 k = _
      rw [mI_oth (by omega), mI_oth (by omega)]
      exact c1.2.1 k h2 h3 h4) c2.2.2.1 S.reverse [] (nI S.length - 1) none none (by simp) (by
        rw [List.length_reverse]
        generalize nI S.length = x
        rw [Int32.sub_add_cancel])
    have key2 : xV D N0 mM_pay (d + 4) 150 [some (.ref m), some (.int fr), some (.int to), some (.int am), some (.long lo), none, some (.int dl), some (.int (nI P)), some (.long am.toInt64), none, some (.int dl), some (.int to), some (.int (nI S.length - 1)), none, none] [] (hm m (mJ (mI (mI (mF A2 34 (nI P + 1)) 34 P (nI S.length)) 35 P to) 36 P lo) h) (xTe (tPay A fr to am dl) (.returned (some (.int 0))) (hm m (mF A 0 (tPay A fr to am dl)) h) (pEnd m h (mF A 0 0) S P to lo dl)) :=
      xV.mono (fun o u hz => Or.inr ⟨hT, A2, c1, c2, Or.inr ⟨hS0, hz.1, hz.2⟩⟩) key
    refine xV.step rfl ?_
    refine xV.mget rfl rfl ?_
    rw [hP']
    refine xV.step rfl ?_
    show xV D N0 mM_pay (d + 4) 93 [some (.ref m), some (.int fr), some (.int to), some (.int am), some (.long lo), none, some (.int dl), some (.int (nI P)), none, none, none, none, none, none, none] [] _ _
    refine xV.step rfl ?_
    refine xV.step rfl ?_
    refine xV.mget rfl rfl ?_
    rw [hP']
    refine xV.step rfl ?_
    refine xV.step rfl ?_
    refine xV.mput rfl rfl rfl (Nat.le_of_ble_eq_true rfl) ?_
    refine xV.step rfl ?_
    refine xV.mget rfl rfl ?_
    refine xV.step rfl ?_
    refine xV.step rfl ?_
    refine xV.mget rfl rfl ?_
    rw [show (mF A2 34 (nI P + 1)).1 28 = nI S.length from c2.1]
    refine xV.si (n := 16) (j := P) rfl rfl rfl rfl hP3 ?_
    refine xV.step rfl ?_
    refine xV.mget rfl rfl ?_
    refine xV.step rfl ?_
    refine xV.step rfl ?_
    refine xV.si (n := 16) (j := P) rfl rfl rfl rfl hP3 ?_
    refine xV.step rfl ?_
    refine xV.mget rfl rfl ?_
    refine xV.step rfl ?_
    refine xV.step rfl ?_
    refine xV.sj (n := 16) (j := P) rfl rfl rfl rfl hP3 ?_
    refine xV.step rfl ?_
    refine xV.step rfl ?_
    refine xV.step rfl ?_
    show xV D N0 mM_pay (d + 4) 135 [some (.ref m), some (.int fr), some (.int to), some (.int am), some (.long lo), none, some (.int dl), some (.int (nI P)), some (.long am.toInt64), none, none, none, none, none, none] [] _ _
    refine xV.step rfl ?_
    refine xV.step rfl ?_
    show xV D N0 mM_pay (d + 4) 139 [some (.ref m), some (.int fr), some (.int to), some (.int am), some (.long lo), none, some (.int dl), some (.int (nI P)), some (.long am.toInt64), none, some (.int dl), none, none, none, none] [] _ _
    refine xV.step rfl ?_
    refine xV.step rfl ?_
    show xV D N0 mM_pay (d + 4) 142 [some (.ref m), some (.int fr), some (.int to), some (.int am), some (.long lo), none, some (.int dl), some (.int (nI P)), some (.long am.toInt64), none, some (.int dl), some (.int to), none, none, none] [] _ _
    refine xV.step rfl ?_
    refine xV.mget rfl rfl ?_
    rw [show (mJ (mI (mI (mF A2 34 (nI P + 1)) 34 P (nI S.length)) 35 P to) 36 P lo).1 28 = nI S.length from c2.1]
    refine xV.step rfl ?_
    refine xV.step rfl ?_
    refine xV.step rfl ?_
    exact key2
end X39
