/- Part 50: things by their numbers: printed by wip/whole/tools/gen50.py -/
def xGt (b : Bool) (v : Value) (h : XH) : Outcome → XH → Prop := fun o u => (b = true ∧ o = .returned (some v) ∧ u = h) ∨ (b = false ∧ o = .threw h.1 ∧ u = xnew h (.inr (8, [])) 6)
def inr0 (n : Int32) (C : Nat) : Bool := decide (0 ≤ n ∧ n < nI C)
section X50
variable {D : va_G} {N0 : Nat} {d a : Nat} {h : XH}
theorem c_N_channelAt {co ba pa de wa se ch py la tr : Nat} {hg : Int32} {q : Nat → Nat} {C j : Nat} {n : Int32} (ha : xget h a = some (.inr (0, neF co ba pa de wa se ch py la tr hg))) (hL : aL h ch q C) (hn : inr0 n C = true → n = nI j ∧ j < C) (hq : inr0 n C = true → ∃ fs, xget h (q j) = some (.inr (4, fs))) (hr : xrm h) :
    xV D N0 mN_channelAt (d + 7) 0 (xargs 2 [.ref a, .int n]) [] h (xGt (inr0 n C) (.ref (q j)) h) := by
  have go : ∀ b : Bool, inr0 n C = b → xV D N0 mN_channelAt (d + 7) 20 (xargs 2 [.ref a, .int n]) [.int (xB b)] h (xGt (inr0 n C) (.ref (q j)) h) := fun b hb => by
    refine xV.ck rfl g_mN_channelAt_106 mN_checkIndex_ok (Nat.le_of_ble_eq_true rfl) (Nat.le_of_ble_eq_true rfl) rfl (c_N_checkIndex (b := b) hr) (fun z => Or.inr ⟨by rw [hb]; exact z, rfl, rfl⟩) (fun z => ?_)
    have hi : inr0 n C = true := by rw [hb]; exact z
    obtain ⟨e, hj⟩ := hn hi
    obtain ⟨fs, hf⟩ := hq hi
    refine xV.step rfl ?_
    refine xV.get xcl_ok rfl ha rfl ?_
    refine xV.step rfl ?_
    refine xV.lgt hL e hj rfl g_mN_channelAt_298 (Nat.le_of_ble_eq_true rfl) ?_
    refine xV.cast rfl hf rfl k_mN_channelAt_89 ?_
    exact xV.aret rfl rfl (Or.inl ⟨_, rfl⟩) (Or.inr ⟨_, rfl⟩) (Or.inl ⟨hi, rfl, rfl⟩)
  refine xV.step rfl ?_
  refine xV.br rfl (fun h1 => ?_) (fun h1 => ?_)
  · refine xV.step rfl ?_
    refine go false (decide_eq_false (fun z => ?_))
    have := z.1
    simp only [Int32.lt_iff_toInt_lt, Int32.le_iff_toInt_le] at *
    omega
  refine xV.step rfl ?_
  refine xV.step rfl ?_
  refine xV.get xcl_ok rfl ha rfl ?_
  refine xV.lsz hL rfl g_mN_channelAt_85 (Nat.le_of_ble_eq_true rfl) ?_
  refine xV.br rfl (fun h2 => ?_) (fun h2 => ?_)
  · refine xV.step rfl ?_
    refine go false (decide_eq_false (fun z => ?_))
    have := z.2
    simp only [Int32.lt_iff_toInt_lt, Int32.le_iff_toInt_le] at *
    omega
  · refine xV.step rfl ?_
    refine xV.step rfl ?_
    refine go true (decide_eq_true ?_)
    simp only [Int32.lt_iff_toInt_lt, Int32.le_iff_toInt_le] at *
    omega
theorem c_N_paymentAt {co ba pa de wa se ch py la tr : Nat} {hg : Int32} {q : Nat → Nat} {C j : Nat} {n : Int32} (ha : xget h a = some (.inr (0, neF co ba pa de wa se ch py la tr hg))) (hL : aL h py q C) (hn : inr0 n C = true → n = nI j ∧ j < C) (hq : inr0 n C = true → ∃ fs, xget h (q j) = some (.inr (6, fs))) (hr : xrm h) :
    xV D N0 mN_paymentAt (d + 7) 0 (xargs 2 [.ref a, .int n]) [] h (xGt (inr0 n C) (.ref (q j)) h) := by
  have go : ∀ b : Bool, inr0 n C = b → xV D N0 mN_paymentAt (d + 7) 20 (xargs 2 [.ref a, .int n]) [.int (xB b)] h (xGt (inr0 n C) (.ref (q j)) h) := fun b hb => by
    refine xV.ck rfl g_mN_paymentAt_106 mN_checkIndex_ok (Nat.le_of_ble_eq_true rfl) (Nat.le_of_ble_eq_true rfl) rfl (c_N_checkIndex (b := b) hr) (fun z => Or.inr ⟨by rw [hb]; exact z, rfl, rfl⟩) (fun z => ?_)
    have hi : inr0 n C = true := by rw [hb]; exact z
    obtain ⟨e, hj⟩ := hn hi
    obtain ⟨fs, hf⟩ := hq hi
    refine xV.step rfl ?_
    refine xV.get xcl_ok rfl ha rfl ?_
    refine xV.step rfl ?_
    refine xV.lgt hL e hj rfl g_mN_paymentAt_298 (Nat.le_of_ble_eq_true rfl) ?_
    refine xV.cast rfl hf rfl k_mN_paymentAt_217 ?_
    exact xV.aret rfl rfl (Or.inl ⟨_, rfl⟩) (Or.inr ⟨_, rfl⟩) (Or.inl ⟨hi, rfl, rfl⟩)
  refine xV.step rfl ?_
  refine xV.br rfl (fun h1 => ?_) (fun h1 => ?_)
  · refine xV.step rfl ?_
    refine go false (decide_eq_false (fun z => ?_))
    have := z.1
    simp only [Int32.lt_iff_toInt_lt, Int32.le_iff_toInt_le] at *
    omega
  refine xV.step rfl ?_
  refine xV.step rfl ?_
  refine xV.get xcl_ok rfl ha rfl ?_
  refine xV.lsz hL rfl g_mN_paymentAt_85 (Nat.le_of_ble_eq_true rfl) ?_
  refine xV.br rfl (fun h2 => ?_) (fun h2 => ?_)
  · refine xV.step rfl ?_
    refine go false (decide_eq_false (fun z => ?_))
    have := z.2
    simp only [Int32.lt_iff_toInt_lt, Int32.le_iff_toInt_le] at *
    omega
  · refine xV.step rfl ?_
    refine xV.step rfl ?_
    refine go true (decide_eq_true ?_)
    simp only [Int32.lt_iff_toInt_lt, Int32.le_iff_toInt_le] at *
    omega
theorem c_N_promiseOf {f s lt st he pu pd pb : Int32} {b1 b2 pl : Nat} {sd : Bool} {q : Nat → Nat} {C j : Nat} {n : Int32} (ha : xget h a = some (.inr (4, chF f s b1 b2 pl lt st he pu pd pb sd))) (hL : aL h pl q C) (hn : inr0 n C = true → n = nI j ∧ j < C) (hq : inr0 n C = true → ∃ fs, xget h (q j) = some (.inr (5, fs))) (hr : xrm h) :
    xV D N0 mN_promiseOf (d + 7) 0 (xargs 2 [.ref a, .int n]) [] h (xGt (inr0 n C) (.ref (q j)) h) := by
  have go : ∀ b : Bool, inr0 n C = b → xV D N0 mN_promiseOf (d + 7) 20 (xargs 2 [.ref a, .int n]) [.int (xB b)] h (xGt (inr0 n C) (.ref (q j)) h) := fun b hb => by
    refine xV.ck rfl g_mN_promiseOf_106 mN_checkIndex_ok (Nat.le_of_ble_eq_true rfl) (Nat.le_of_ble_eq_true rfl) rfl (c_N_checkIndex (b := b) hr) (fun z => Or.inr ⟨by rw [hb]; exact z, rfl, rfl⟩) (fun z => ?_)
    have hi : inr0 n C = true := by rw [hb]; exact z
    obtain ⟨e, hj⟩ := hn hi
    obtain ⟨fs, hf⟩ := hq hi
    refine xV.step rfl ?_
    refine xV.get xcl_ok rfl ha rfl ?_
    refine xV.step rfl ?_
    refine xV.lgt hL e hj rfl g_mN_promiseOf_298 (Nat.le_of_ble_eq_true rfl) ?_
    refine xV.cast rfl hf rfl k_mN_promiseOf_126 ?_
    exact xV.aret rfl rfl (Or.inl ⟨_, rfl⟩) (Or.inr ⟨_, rfl⟩) (Or.inl ⟨hi, rfl, rfl⟩)
  refine xV.step rfl ?_
  refine xV.br rfl (fun h1 => ?_) (fun h1 => ?_)
  · refine xV.step rfl ?_
    refine go false (decide_eq_false (fun z => ?_))
    have := z.1
    simp only [Int32.lt_iff_toInt_lt, Int32.le_iff_toInt_le] at *
    omega
  refine xV.step rfl ?_
  refine xV.step rfl ?_
  refine xV.get xcl_ok rfl ha rfl ?_
  refine xV.lsz hL rfl g_mN_promiseOf_85 (Nat.le_of_ble_eq_true rfl) ?_
  refine xV.br rfl (fun h2 => ?_) (fun h2 => ?_)
  · refine xV.step rfl ?_
    refine go false (decide_eq_false (fun z => ?_))
    have := z.2
    simp only [Int32.lt_iff_toInt_lt, Int32.le_iff_toInt_le] at *
    omega
  · refine xV.step rfl ?_
    refine xV.step rfl ?_
    refine go true (decide_eq_true ?_)
    simp only [Int32.lt_iff_toInt_lt, Int32.le_iff_toInt_le] at *
    omega
theorem c_N_latestPromise {f s lt st he pu pd pb : Int32} {b1 b2 pl : Nat} {sd : Bool} {q : Nat → Nat} {C j : Nat} {n p p' am dl mi gi : Int32} {lo : Int64} {po : Bool} (ha : xget h a = some (.inr (4, chF f s b1 b2 pl lt st he pu pd pb sd))) (hL : aL h pl q C) (hn : inr0 n C = true → n = nI j ∧ j < C) (hq : inr0 n C = true → xget h (q j) = some (.inr (5, prF p p' am lo dl mi gi po))) (hr : xrm h) :
    xV D N0 mN_latestPromise (d + 8) 0 (xargs 3 [.ref a, .int n]) [] h (xGt (inr0 n C && isIn0 mi gi lt) (.ref (q j)) h) := by
  refine xV.step rfl ?_
  refine xV.step rfl ?_
  refine xV.callS rfl rfl g_mN_latestPromise_189 mN_promiseOf_ok (Nat.le_of_ble_eq_true rfl) (Nat.le_of_ble_eq_true rfl) (c_N_promiseOf ha hL hn (fun z => ⟨_, hq z⟩) hr) (fun w u hz => ?_) (fun w u hz => ?_)
  · rcases hz with ⟨hb, e, rfl⟩ | ⟨_, e, _⟩
    · cases e
      have hp := hq hb
      refine xV.step rfl ?_
      refine xV.step rfl ?_
      refine xV.step rfl ?_
      refine xV.get xcl_ok rfl ha rfl ?_
      refine xV.cV rfl rfl hp rfl g_mN_latestPromise_195 mP_isIn_ok (Nat.le_of_ble_eq_true rfl) (Nat.le_of_ble_eq_true rfl) (c_P_isIn hp) ?_
      refine xV.ck rfl g_mN_latestPromise_106 mN_checkIndex_ok (Nat.le_of_ble_eq_true rfl) (Nat.le_of_ble_eq_true rfl) rfl (c_N_checkIndex hr) (fun z => Or.inr ⟨by rw [hb, z]; rfl, rfl, rfl⟩) (fun z => ?_)
      refine xV.step rfl ?_
      exact xV.aret rfl rfl (Or.inl ⟨_, rfl⟩) (Or.inr ⟨_, rfl⟩) (Or.inl ⟨by rw [hb, z]; rfl, rfl, rfl⟩)
    · cases e
  · rcases hz with ⟨_, e, _⟩ | ⟨hb, e, rfl⟩
    · cases e
    · cases e
      exact xT.out rfl (Or.inr ⟨by rw [hb]; rfl, rfl, rfl⟩)
theorem c_N_ledgerPromise {f s lt st he pu pd pb : Int32} {b1 b2 pl : Nat} {sd : Bool} {q : Nat → Nat} {C j : Nat} {n p p' am dl mi gi : Int32} {lo : Int64} {po : Bool} (ha : xget h a = some (.inr (4, chF f s b1 b2 pl lt st he pu pd pb sd))) (hL : aL h pl q C) (hn : inr0 n C = true → n = nI j ∧ j < C) (hq : inr0 n C = true → xget h (q j) = some (.inr (5, prF p p' am lo dl mi gi po))) (hr : xrm h) :
    xV D N0 mN_ledgerPromise (d + 8) 0 (xargs 3 [.ref a, .int n]) [] h (xGt (inr0 n C && (decide (pd = -1) || (isIn0 mi gi pd && !po))) (.ref (q j)) h) := by
  refine xV.step rfl ?_
  refine xV.step rfl ?_
  refine xV.callS rfl rfl g_mN_ledgerPromise_189 mN_promiseOf_ok (Nat.le_of_ble_eq_true rfl) (Nat.le_of_ble_eq_true rfl) (c_N_promiseOf ha hL hn (fun z => ⟨_, hq z⟩) hr) (fun w u hz => ?_) (fun w u hz => ?_)
  · rcases hz with ⟨hb, e, rfl⟩ | ⟨_, e, _⟩
    · cases e
      have hp := hq hb
      rw [hb]
      have go : ∀ b : Bool, (decide (pd = -1) || (isIn0 mi gi pd && !po)) = b → xV D N0 mN_ledgerPromise (d + 8) 37 [some (.ref a), some (.int n), some (.ref (q j))] [.int (xB b)] u (xGt (true && (decide (pd = -1) || (isIn0 mi gi pd && !po))) (.ref (q j)) u) := fun b hb2 => by
        refine xV.ck rfl g_mN_ledgerPromise_106 mN_checkIndex_ok (Nat.le_of_ble_eq_true rfl) (Nat.le_of_ble_eq_true rfl) rfl (c_N_checkIndex (b := b) hr) (fun z => Or.inr ⟨by rw [hb2, z]; rfl, rfl, rfl⟩) (fun z => ?_)
        refine xV.step rfl ?_
        exact xV.aret rfl rfl (Or.inl ⟨_, rfl⟩) (Or.inr ⟨_, rfl⟩) (Or.inl ⟨by rw [hb2, z]; rfl, rfl, rfl⟩)
      refine xV.step rfl ?_
      refine xV.step rfl ?_
      refine xV.get xcl_ok rfl ha rfl ?_
      refine xV.step rfl ?_
      refine xV.br rfl (fun h1 => ?_) (fun h1 => ?_)
      · refine xV.step rfl ?_
        refine xV.step rfl ?_
        exact go true (by rw [decide_eq_true h1]; rfl)
      refine xV.step rfl ?_
      refine xV.step rfl ?_
      refine xV.get xcl_ok rfl ha rfl ?_
      refine xV.cV rfl rfl hp rfl g_mN_ledgerPromise_195 mP_isIn_ok (Nat.le_of_ble_eq_true rfl) (Nat.le_of_ble_eq_true rfl) (c_P_isIn hp) ?_
      refine xV.br rfl (fun h2 => ?_) (fun h2 => ?_)
      · refine xV.step rfl ?_
        exact go false (by rw [decide_eq_false h1, xB_f h2]; rfl)
      refine xV.step rfl ?_
      refine xV.get xcl_ok rfl hp rfl ?_
      refine xV.br rfl (fun h3 => ?_) (fun h3 => ?_)
      · refine xV.step rfl ?_
        refine xV.step rfl ?_
        exact go true (by rw [decide_eq_false h1, xB_t h2, xB_f h3]; rfl)
      · refine xV.step rfl ?_
        exact go false (by rw [decide_eq_false h1, xB_t h2, xB_t h3]; rfl)
    · cases e
  · rcases hz with ⟨_, e, _⟩ | ⟨hb, e, rfl⟩
    · cases e
    · cases e
      exact xT.out rfl (Or.inr ⟨by rw [hb]; rfl, rfl, rfl⟩)
end X50
