/- Part 72: open. -/
def eOpenC (S : CS) (f s a b : Int32) (fi si : Nat) : Option Nat := if nd f = true ∧ nd s = true then (if f ≠ s ∧ (0 ≤ a ∧ 0 ≤ b ∧ (0 < a ∨ 0 < b)) then (if S.2.2.2 (9, 0, 0) 0 < 8 ∧ (a ≤ S.1 (1, 0, 0) fi ∧ b ≤ S.1 (1, 0, 0) si) then none else some 10) else some 9) else some 8
/-- the coins that a new channel takes -/
def cop1 (S : CS) (fi si : Nat) (a b : Int32) : CS := cfI (cfI S (1, 0, 0) fi (S.1 (1, 0, 0) fi - a)) (1, 0, 0) si (upd (S.1 (1, 0, 0)) fi (S.1 (1, 0, 0) fi - a) si - b)
section X72
variable {D : va_G} {N0 : Nat} {d : Nat} {E : RO → Nat} {S : CS} {K : Nat → Option XC} {h : XH}
def opEnd (D : va_G) (E : RO → Nat) (S : CS) (K : Nat → Option XC) (h : XH) (fi si : Nat) (a b : Int32) : Outcome → XH → Prop := fun o u => o = .returned (some (.int (nI (S.2.2.2 (9, 0, 0) 0)))) ∧ ∃ (E' : RO → Nat) (c : Nat) (mo : Int32), E' (0, 0, 0) = E (0, 0, 0) ∧ Rep E' (D.1 1000) (czl (cop0 (cop1 S fi si a b) (S.2.2.2 (9, 0, 0) 0) fi si a b) (9, 0, 0) (S.2.2.2 (9, 0, 0) 0 + 1) c mo) K u ∧ xMk h u 5 216
theorem c_N_open (R : Rep E (D.1 1000) S K h) (hr : h.2.1 + 5 ≤ xCmax ∧ h.2.2.1 + 216 ≤ xSmax) (hC : S.2.2.2 (9, 0, 0) 0 ≤ 8) {fi si : Nat} {f s a b : Int32} (hf : nd f = true → f = nI fi ∧ fi < 6) (hs : nd s = true → s = nI si ∧ si < 6) : xV D N0 mN_open (d + 8) 0 (xargs 5 [.ref (E (0, 0, 0)), .int f, .int s, .int a, .int b]) [] h (xEd (eOpenC S f s a b fi si) h (opEnd D E S K h fi si a b)) := by
  have hr0 : xrm h := ⟨by have := hr.1; omega, by have := hr.2; omega⟩
  refine xV.step rfl ?_
  refine xV.ck rfl g_mN_open_58 mN_checkNode_ok (Nat.le_of_ble_eq_true rfl) (Nat.le_of_ble_eq_true rfl) rfl (c_N_checkNode hr0) (fun z => xEd_some (by unfold eOpenC; rw [if_neg (fun y => by rw [z] at y; cases y.1)])) (fun z1 => ?_)
  refine xV.step rfl ?_
  refine xV.ck rfl g_mN_open_58 mN_checkNode_ok (Nat.le_of_ble_eq_true rfl) (Nat.le_of_ble_eq_true rfl) rfl (c_N_checkNode hr0) (fun z => xEd_some (by unfold eOpenC; rw [if_neg (fun y => by rw [z] at y; cases y.2)])) (fun z2 => ?_)
  obtain ⟨rfl, hfi⟩ := hf z1
  obtain ⟨rfl, hsi⟩ := hs z2
  have no9 : ¬ (nI fi ≠ nI si ∧ (0 ≤ a ∧ 0 ≤ b ∧ (0 < a ∨ 0 < b))) → eOpenC S (nI fi) (nI si) a b fi si = some 9 := fun y => by unfold eOpenC; rw [if_pos ⟨z1, z2⟩, if_neg y]
  have g4 : nI fi ≠ nI si ∧ (0 ≤ a ∧ 0 ≤ b ∧ (0 < a ∨ 0 < b)) → S.2.2.2 (9, 0, 0) 0 < 8 → ∀ t : Bool, decide (a ≤ S.1 (1, 0, 0) fi ∧ b ≤ S.1 (1, 0, 0) si) = t → xV D N0 mN_open (d + 8) 93 (xargs 5 [.ref (E (0, 0, 0)), .int (nI fi), .int (nI si), .int a, .int b]) [.int (xB t)] h (xEd (eOpenC S (nI fi) (nI si) a b fi si) h (opEnd D E S K h fi si a b)) := by
    intro y1 y2 t ht
    refine xV.ckS rfl g_mN_open_74 (Nat.le_of_ble_eq_true rfl) rfl hr0 (fun y => xEd_some (by unfold eOpenC; rw [if_pos ⟨z1, z2⟩, if_pos y1, if_neg (fun w => of_decide_eq_false (ht.trans y) w.2)])) (fun y => ?_)
    have y3 := of_decide_eq_true (ht.trans y)
    rw [show eOpenC S (nI fi) (nI si) a b fi si = none from by unfold eOpenC; rw [if_pos ⟨z1, z2⟩, if_pos y1, if_pos ⟨y2, y3⟩]]
    refine xV.step rfl ?_
    refine xV.get xcl_ok rfl R.net rfl ?_
    refine xV.step rfl ?_
    refine xV.step rfl ?_
    refine xV.ii (j := fi) rfl R.coins rfl hfi (by omega) ?_
    refine xV.step rfl ?_
    refine xV.step rfl ?_
    refine xV.is (j := fi) rfl R.coins rfl hfi (by omega) ?_
    have R1 : Rep E (D.1 1000) (cfI S (1, 0, 0) fi (S.1 (1, 0, 0) fi - a)) K _ := R.put kV_1 (upd (S.1 (1, 0, 0)) fi (S.1 (1, 0, 0) fi - a)) (S.2.1 (1, 0, 0)) (S.2.2.1 (1, 0, 0))
    refine xV.step rfl ?_
    refine xV.get xcl_ok rfl R1.net rfl ?_
    refine xV.step rfl ?_
    refine xV.step rfl ?_
    refine xV.ii (j := si) rfl R1.coins rfl hsi (by omega) ?_
    refine xV.step rfl ?_
    refine xV.step rfl ?_
    refine xV.is (j := si) rfl R1.coins rfl hsi (by omega) ?_
    have R2 : Rep E (D.1 1000) (cop1 S fi si a b) K _ := R1.put kV_1 (upd (upd (S.1 (1, 0, 0)) fi (S.1 (1, 0, 0) fi - a)) si (upd (S.1 (1, 0, 0)) fi (S.1 (1, 0, 0) fi - a) si - b)) (S.2.1 (1, 0, 0)) (S.2.2.1 (1, 0, 0))
    replace R2 : Rep E (D.1 1000) (cop1 S fi si a b) K (xput (xput h (E (1, 0, 0)) (.inl (false, .int, 6, .inl (upd (S.1 (1, 0, 0)) fi (S.1 (1, 0, 0) fi - a))))) (E (1, 0, 0)) (.inl (false, .int, 6, .inl (upd (upd (S.1 (1, 0, 0)) fi (S.1 (1, 0, 0) fi - a)) si (upd (S.1 (1, 0, 0)) fi (S.1 (1, 0, 0) fi - a) si - b))))) := R2
    show xV D N0 mN_open (d + 8) 117 _ [] (xput (xput h (E (1, 0, 0)) (.inl (false, .int, 6, .inl (upd (S.1 (1, 0, 0)) fi (S.1 (1, 0, 0) fi - a))))) (E (1, 0, 0)) (.inl (false, .int, 6, .inl (upd (upd (S.1 (1, 0, 0)) fi (S.1 (1, 0, 0) fi - a)) si (upd (S.1 (1, 0, 0)) fi (S.1 (1, 0, 0) fi - a) si - b))))) _
    have hsz : ∀ u, u = xput (xput h (E (1, 0, 0)) (.inl (false, .int, 6, .inl (upd (S.1 (1, 0, 0)) fi (S.1 (1, 0, 0) fi - a))))) (E (1, 0, 0)) (.inl (false, .int, 6, .inl (upd (upd (S.1 (1, 0, 0)) fi (S.1 (1, 0, 0) fi - a)) si (upd (S.1 (1, 0, 0)) fi (S.1 (1, 0, 0) fi - a) si - b)))) → xSz h u := fun u hu => by subst hu; exact ⟨rfl, rfl, rfl⟩
    generalize xput (xput h (E (1, 0, 0)) (.inl (false, .int, 6, .inl (upd (S.1 (1, 0, 0)) fi (S.1 (1, 0, 0) fi - a))))) (E (1, 0, 0)) (.inl (false, .int, 6, .inl (upd (upd (S.1 (1, 0, 0)) fi (S.1 (1, 0, 0) fi - a)) si (upd (S.1 (1, 0, 0)) fi (S.1 (1, 0, 0) fi - a) si - b)))) = h2 at R2 hsz ⊢
    obtain ⟨s1, s2, s3⟩ := hsz h2 rfl
    refine xV.wf (fun wf => ?_)
    refine xV.step rfl ?_
    refine xV.get xcl_ok rfl R2.net rfl ?_
    refine xV.new xcl_ok (ci := 4) rfl rfl n_mN_open_89 (by omega) (by show h2.2.2.1 + 12 ≤ _; omega) ?_
    show xV D N0 mN_open (d + 8) 124 _ [.ref h2.1, .ref (E (9, 0, 0))] (xnew h2 (.inr (4, xdf 4)) 12) _
    refine xV.step rfl ?_
    refine xV.step rfl ?_
    refine xV.step rfl ?_
    refine xV.step rfl ?_
    refine xV.step rfl ?_
    refine xV.cI rfl rfl g_mN_open_91 mC_init_ok (Nat.le_of_ble_eq_true rfl) (Nat.le_of_ble_eq_true rfl) (c_C_init (h := xnew h2 (.inr (4, xdf 4)) 12) new_get (Nat.lt_succ_self _) (by show h2.2.1 + 1 + 3 ≤ _; omega) (by show h2.2.2.1 + 12 + 131 ≤ _; omega)) ?_
    refine xV.wf (fun wf2 => ?_)
    obtain ⟨E', c, mo, u, a1, a2, a3, a4, a5, a6⟩ := R2.newC (D := D) (N0 := N0) (d := d + 1) (f := fi) (s := si) (a := a) (b := b) wf wf2 (by show S.2.2.2 (9, 0, 0) 0 ≤ 7; omega) (by omega) (by omega)
    have hl9 := R2.1 (9, 0, 0) kV_9
    rw [← a4] at hl9
    refine xV.cV rfl rfl hl9 rfl g_mN_open_94 mA_add_ok (Nat.le_of_ble_eq_true rfl) (Nat.le_of_ble_eq_true rfl) a1 ?_
    have hne := a5.net
    rw [a2] at hne
    refine xV.step rfl ?_
    refine xV.step rfl ?_
    refine xV.get xcl_ok rfl hne rfl ?_
    refine xV.lsz a5.lC rfl g_mN_open_85 (Nat.le_of_ble_eq_true rfl) ?_
    rw [show (czl (cop0 (cop1 S fi si a b) ((cop1 S fi si a b).2.2.2 (9, 0, 0) 0) fi si a b) (9, 0, 0) ((cop1 S fi si a b).2.2.2 (9, 0, 0) 0 + 1) c mo).2.2.2 (9, 0, 0) 0 = S.2.2.2 (9, 0, 0) 0 + 1 from zset_0 (cop0 (cop1 S fi si a b) (S.2.2.2 (9, 0, 0) 0) fi si a b).2.2.2 (9, 0, 0) (S.2.2.2 (9, 0, 0) 0 + 1) c]
    refine xV.step rfl ?_
    refine xV.step rfl ?_
    rw [xn_pred]
    refine xV.iret rfl rfl rfl ⟨rfl, E', c, mo, a2, a5, ?_, ?_⟩
    · have := a6.1
      omega
    · have := a6.2
      omega
  have g3 : nI fi ≠ nI si ∧ (0 ≤ a ∧ 0 ≤ b ∧ (0 < a ∨ 0 < b)) → ∀ t : Bool, decide (S.2.2.2 (9, 0, 0) 0 < 8) = t → xV D N0 mN_open (d + 8) 64 (xargs 5 [.ref (E (0, 0, 0)), .int (nI fi), .int (nI si), .int a, .int b]) [.int (xB t)] h (xEd (eOpenC S (nI fi) (nI si) a b fi si) h (opEnd D E S K h fi si a b)) := by
    intro y1 t ht
    refine xV.ckS rfl g_mN_open_74 (Nat.le_of_ble_eq_true rfl) rfl hr0 (fun y => xEd_some (by unfold eOpenC; rw [if_pos ⟨z1, z2⟩, if_pos y1, if_neg (fun w => of_decide_eq_false (ht.trans y) w.1)])) (fun y => ?_)
    have y2 := of_decide_eq_true (ht.trans y)
    refine xV.step rfl ?_
    refine xV.get xcl_ok rfl R.net rfl ?_
    refine xV.step rfl ?_
    refine xV.ii (j := fi) rfl R.coins rfl hfi (by omega) ?_
    refine xV.step rfl ?_
    refine xV.br rfl (fun h1 => ?_) (fun h1 => ?_)
    · refine xV.step rfl ?_
      exact g4 y1 y2 false (decide_eq_false (fun w => by have := w.1; simp only [Int32.lt_iff_toInt_lt, Int32.le_iff_toInt_le] at *; omega))
    refine xV.step rfl ?_
    refine xV.get xcl_ok rfl R.net rfl ?_
    refine xV.step rfl ?_
    refine xV.ii (j := si) rfl R.coins rfl hsi (by omega) ?_
    refine xV.step rfl ?_
    refine xV.br rfl (fun h2 => ?_) (fun h2 => ?_)
    · refine xV.step rfl ?_
      exact g4 y1 y2 false (decide_eq_false (fun w => by have := w.2; simp only [Int32.lt_iff_toInt_lt, Int32.le_iff_toInt_le] at *; omega))
    · refine xV.step rfl ?_
      refine xV.step rfl ?_
      exact g4 y1 y2 true (decide_eq_true ⟨by simp only [Int32.lt_iff_toInt_lt, Int32.le_iff_toInt_le] at *; omega, by simp only [Int32.lt_iff_toInt_lt, Int32.le_iff_toInt_le] at *; omega⟩)
  have g2 : nI fi ≠ nI si → ∀ t : Bool, decide (0 ≤ a ∧ 0 ≤ b ∧ (0 < a ∨ 0 < b)) = t → xV D N0 mN_open (d + 8) 44 (xargs 5 [.ref (E (0, 0, 0)), .int (nI fi), .int (nI si), .int a, .int b]) [.int (xB t)] h (xEd (eOpenC S (nI fi) (nI si) a b fi si) h (opEnd D E S K h fi si a b)) := by
    intro y1 t ht
    refine xV.ckA rfl g_mN_open_62 (Nat.le_of_ble_eq_true rfl) rfl hr0 (fun y => xEd_some (no9 (fun w => of_decide_eq_false (ht.trans y) w.2))) (fun y => ?_)
    have y2 := of_decide_eq_true (ht.trans y)
    refine xV.step rfl ?_
    refine xV.get xcl_ok rfl R.net rfl ?_
    refine xV.lsz R.lC rfl g_mN_open_85 (Nat.le_of_ble_eq_true rfl) ?_
    refine xV.step rfl ?_
    refine xV.br rfl (fun h1 => ?_) (fun h1 => ?_)
    · refine xV.step rfl ?_
      refine g3 ⟨y1, y2⟩ false (decide_eq_false (fun w => ?_))
      rw [show (8 : Int32) = nI 8 from rfl, xn_le (by omega) (by omega)] at h1
      omega
    · refine xV.step rfl ?_
      refine xV.step rfl ?_
      refine g3 ⟨y1, y2⟩ true (decide_eq_true ?_)
      rw [show (8 : Int32) = nI 8 from rfl, xn_le (by omega) (by omega)] at h1
      omega
  have g1 : ∀ t : Bool, decide (nI fi ≠ nI si) = t → xV D N0 mN_open (d + 8) 18 (xargs 5 [.ref (E (0, 0, 0)), .int (nI fi), .int (nI si), .int a, .int b]) [.int (xB t)] h (xEd (eOpenC S (nI fi) (nI si) a b fi si) h (opEnd D E S K h fi si a b)) := by
    intro t ht
    refine xV.ckA rfl g_mN_open_62 (Nat.le_of_ble_eq_true rfl) rfl hr0 (fun y => xEd_some (no9 (fun w => of_decide_eq_false (ht.trans y) w.1))) (fun y => ?_)
    have y1 := of_decide_eq_true (ht.trans y)
    refine xV.step rfl ?_
    refine xV.br rfl (fun h1 => ?_) (fun h1 => ?_)
    · refine xV.step rfl ?_
      exact g2 y1 false (decide_eq_false (fun w => by have := w.1; simp only [Int32.lt_iff_toInt_lt, Int32.le_iff_toInt_le] at *; omega))
    refine xV.step rfl ?_
    refine xV.br rfl (fun h2 => ?_) (fun h2 => ?_)
    · refine xV.step rfl ?_
      exact g2 y1 false (decide_eq_false (fun w => by have := w.2.1; simp only [Int32.lt_iff_toInt_lt, Int32.le_iff_toInt_le] at *; omega))
    refine xV.step rfl ?_
    refine xV.br rfl (fun h3 => ?_) (fun h3 => ?_)
    · refine xV.step rfl ?_
      refine xV.step rfl ?_
      exact g2 y1 true (decide_eq_true ⟨by simp only [Int32.lt_iff_toInt_lt, Int32.le_iff_toInt_le] at *; omega, by simp only [Int32.lt_iff_toInt_lt, Int32.le_iff_toInt_le] at *; omega, Or.inl h3⟩)
    refine xV.step rfl ?_
    refine xV.br rfl (fun h4 => ?_) (fun h4 => ?_)
    · refine xV.step rfl ?_
      exact g2 y1 false (decide_eq_false (fun w => by
        rcases w.2.2 with w3 | w3
        · exact h3 w3
        · simp only [Int32.lt_iff_toInt_lt, Int32.le_iff_toInt_le] at *
          omega))
    · refine xV.step rfl ?_
      refine xV.step rfl ?_
      exact g2 y1 true (decide_eq_true ⟨by simp only [Int32.lt_iff_toInt_lt, Int32.le_iff_toInt_le] at *; omega, by simp only [Int32.lt_iff_toInt_lt, Int32.le_iff_toInt_le] at *; omega, Or.inr (by simp only [Int32.lt_iff_toInt_lt, Int32.le_iff_toInt_le] at *; omega)⟩)
  refine xV.step rfl ?_
  refine xV.step rfl ?_
  refine xV.br rfl (fun h1 => ?_) (fun h1 => ?_)
  · refine xV.step rfl ?_
    exact g1 false (decide_eq_false (fun w => w h1))
  · refine xV.step rfl ?_
    refine xV.step rfl ?_
    exact g1 true (decide_eq_true h1)
end X72
