/- Part 78: pay. -/
def ePayC (S : CS) (f t a dl : Int32) : Option Nat := match eEnds f t a with
  | some ci => some ci
  | none => if 0 ≤ dl ∧ dl ≤ 1000000000 then (if S.2.2.2 (10, 0, 0) 0 < 16 then none else some 10) else some 9
/-- pay's end: no route; or a new payment -/
def pyEnd (D : va_G) (E : RO → Nat) (S : CS) (K : Nat → Option XC) (h : XH) (B : SP) (tn : Nat) (lo : Int64) (dl : Int32) : Outcome → XH → Prop := fun o u => ∃ S2, cSame S S2 ∧ bestB S2 B ∧ ((B = [] ∧ o = .returned (some (.int (-1))) ∧ Rep E (D.1 1000) S2 K u ∧ xMk h u 7 200) ∨ (B ≠ [] ∧ o = .returned (some (.int (nI (S.2.2.2 (10, 0, 0) 0)))) ∧ ∃ (E' : RO → Nat) (c : Nat) (mo : Int32), E' (0, 0, 0) = E (0, 0, 0) ∧ Rep E' (D.1 1000) (czl (cpy0 S2 (S.2.2.2 (10, 0, 0) 0) B.length tn lo dl) (10, 0, 0) (S.2.2.2 (10, 0, 0) 0 + 1) c mo) K u ∧ xMk h u 7 200))
section X78
variable {D : va_G} {N0 : Nat} {d : Nat} {E : RO → Nat} {S : CS} {K : Nat → Option XC} {h : XH}
theorem c_N_pay (R : Rep E (D.1 1000) S K h) (hr : h.2.1 + 7 ≤ xCmax ∧ h.2.2.1 + 200 ≤ xSmax) (hO : srOK S) (hP : S.2.2.2 (10, 0, 0) 0 ≤ 16) {fr to am dl : Int32} {lo : Int64} {tn : Nat} (ht : nd to = true → to = nI tn) : xV D N0 mN_pay (d + 18) 0 (xargs 8 [.ref (E (0, 0, 0)), .int fr, .int to, .int am, .long lo, .int dl]) [] h (xEd (ePayC S fr to am dl) h (pyEnd D E S K h (cres S fr to am) tn lo dl)) := by
  have hr0 : xrm h := ⟨by have := hr.1; omega, by have := hr.2; omega⟩
  refine xV.step rfl ?_
  refine xV.step rfl ?_
  refine xV.step rfl ?_
  refine xV.kE rfl rfl g_mN_pay_198 mN_checkEnds_ok (Nat.le_of_ble_eq_true rfl) (Nat.le_of_ble_eq_true rfl) rfl (c_N_checkEnds hr0) (fun ci z => xEd_some (by unfold ePayC; rw [z])) (fun z => ?_)
  have hto : to = nI tn := ht (by
    unfold eEnds at z
    split at z
    · rename_i hh
      exact hh.2
    · cases z)
  subst hto
  have g2 : (0 ≤ dl ∧ dl ≤ 1000000000) → ∀ t : Bool, decide (S.2.2.2 (10, 0, 0) 0 < 16) = t → xV D N0 mN_pay (d + 18) 43 (xargs 8 [.ref (E (0, 0, 0)), .int fr, .int (nI tn), .int am, .long lo, .int dl]) [.int (xB t)] h (xEd (ePayC S fr (nI tn) am dl) h (pyEnd D E S K h (cres S fr (nI tn) am) tn lo dl)) := by
    intro y1 t ht
    refine xV.ckS rfl g_mN_pay_74 (Nat.le_of_ble_eq_true rfl) rfl hr0 (fun y => xEd_some (by unfold ePayC; rw [z]; show (if _ then _ else _) = _; rw [if_pos y1, if_neg (of_decide_eq_false (ht.trans y))])) (fun y => ?_)
    have y2 := of_decide_eq_true (ht.trans y)
    rw [show ePayC S fr (nI tn) am dl = none from by unfold ePayC; rw [z]; show (if _ then _ else _) = _; rw [if_pos y1, if_pos y2]]
    refine xV.step rfl ?_
    refine xV.step rfl ?_
    refine xV.step rfl ?_
    refine xV.step rfl ?_
    refine xV.callV (n := 3) rfl rfl R.net rfl g_mN_pay_202 mN_findRoute_ok (Nat.le_of_ble_eq_true rfl) (Nat.le_of_ble_eq_true rfl) (c_N_findRoute hO R) (fun w u hz => ?_) (fun a u hz => by cases hz.1)
    obtain ⟨z1, S2, z2, z3, z4, z5⟩ := hz
    cases z1
    have hgd := cgood_res hO (fr := fr) (to := nI tn) (am := am)
    have hb := z3.best
    rw [z4.1] at hb
    refine xV.step rfl ?_
    refine xV.get xcl_ok rfl z3.net rfl ?_
    refine xV.get xcl_ok rfl hb rfl ?_
    generalize cres S fr (nI tn) am = B at *
    by_cases hB : B = []
    · subst hB
      refine xV.br rfl (fun h1 => ?_) (fun h1 => absurd rfl h1)
      refine xV.step rfl ?_
      exact xV.iret rfl rfl rfl ⟨S2, z2, z4, Or.inl ⟨rfl, rfl, z3, by have := z5.2.1; omega, by have := z5.2.2; omega⟩⟩
    have hBl : 0 < B.length := List.length_pos_iff.mpr hB
    have hB5 := z4.2.1
    refine xV.br rfl (fun h1 => ?_) (fun h1 => ?_)
    · rw [show (0 : Int32) = nI 0 from rfl, xn_inj (by omega) (by omega)] at h1
      omega
    refine xV.wf (fun wf => ?_)
    obtain ⟨s1, s2, s3⟩ := z5
    refine xV.new xcl_ok (ci := 6) rfl rfl n_mN_pay_217 (by omega) (by show u.2.2.1 + 13 ≤ _; omega) ?_
    show xV D N0 mN_pay (d + 18) 68 _ [.ref u.1] (xnew u (.inr (6, xdf 6)) 13) _
    have lt : ∀ q, kV S2.2.2.2 q → E q < u.1 := fun q hq => wf _ _ (z3.1 q hq)
    have on : ∀ q, kV S2.2.2.2 q → xget (xnew u (.inr (6, xdf 6)) 13) (E q) = xget u (E q) := fun q hq => xnew_ne (Nat.ne_of_lt (lt q hq))
    refine xV.step rfl ?_
    refine xV.step rfl ?_
    refine xV.get xcl_ok rfl ((on _ kV_0).trans z3.net) rfl ?_
    refine xV.step rfl ?_
    refine xV.step rfl ?_
    refine xV.cI rfl rfl g_mN_pay_219 mY_init_ok (Nat.le_of_ble_eq_true rfl) (Nat.le_of_ble_eq_true rfl) (c_Y_init (h := xnew u (.inr (6, xdf 6)) 13) (a := u.1) (L := B.length) new_get (Nat.lt_succ_self _) ((on _ kV_11).trans hb) ((on _ kV_12).trans z3.best1) ((on _ kV_13).trans z3.best2) ((on _ kV_14).trans z3.best3) (Nat.lt_succ_of_lt (lt _ kV_11)) (Nat.lt_succ_of_lt (lt _ kV_12)) (Nat.lt_succ_of_lt (lt _ kV_13)) (Nat.lt_succ_of_lt (lt _ kV_14)) (Nat.ne_of_lt (lt _ kV_11)) (Nat.ne_of_lt (lt _ kV_12)) (Nat.ne_of_lt (lt _ kV_13)) (Nat.ne_of_lt (lt _ kV_14)) hB5 (by show u.2.1 + 1 + 5 ≤ _; omega) (by show u.2.2.1 + 13 + 25 ≤ _; omega)) ?_
    refine xV.step rfl ?_
    show xV D N0 mN_pay (d + 18) 81 [some (.ref (E (0, 0, 0))), some (.int fr), some (.int (nI tn)), some (.int am), some (.long lo), none, some (.int dl), some (.ref u.1)] [] (hY (xnew u (.inr (6, xdf 6)) 13) u.1 B.length (pyF (nI tn) lo (nI B.length) (u.1 + 1) (u.1 + 2) (u.1 + 3) (u.1 + 4) (u.1 + 5) 0 0 (nI 0) (nI 0) 0) (rv (S2.1 (12, 0, 0)) B.length B.length) (rv (S2.1 (13, 0, 0)) B.length B.length) (rv (S2.1 (14, 0, 0)) B.length B.length)) _
    have oY : ∀ q, kV S2.2.2.2 q → ∀ fs f1 f2 f3, xget (hY (xnew u (.inr (6, xdf 6)) 13) u.1 B.length fs f1 f2 f3) (E q) = xget u (E q) := fun q hq fs f1 f2 f3 => (hY_o (Nat.lt_succ_of_lt (lt q hq)) (Nat.ne_of_lt (lt q hq))).trans (on q hq)
    have hl1 : u.1 < (xnew u (.inr (6, xdf 6)) 13).1 := Nat.lt_succ_self _
    refine xV.step rfl ?_
    refine xV.step rfl ?_
    refine xV.step rfl ?_
    refine xV.cV rfl rfl ((oY _ kV_0 _ _ _ _).trans z3.net) rfl g_mN_pay_222 mN_fixDeadlines_ok (Nat.le_of_ble_eq_true rfl) (Nat.le_of_ble_eq_true rfl) (c_N_fixDeadlines (L := B.length) (de := S2.1 (4, 0, 0)) (pf := rv (S2.1 (13, 0, 0)) B.length B.length) ((oY _ kV_0 _ _ _ _).trans z3.net) ((oY _ kV_4 _ _ _ _).trans z3.delta) hY_0 (hY_2 hl1) (hY_4 hl1) (fun i hi => ?_) ?_ ?_ ?_ ?_ hB5) ?_
    · rw [rv_lt hi]
      obtain ⟨e, e1, -, e3, -⟩ := z4.2.2.at (t := B.length - 1 - i) (by omega)
      obtain ⟨-, w, w1, w2⟩ := hgd e e1
      exact ⟨w, w1, e3.trans w2⟩
    · have := lt _ kV_0
      show E (0, 0, 0) ≠ u.1 + 1 + 3
      omega
    · have := lt _ kV_4
      show E (4, 0, 0) ≠ u.1 + 1 + 3
      omega
    · show u.1 ≠ u.1 + 1 + 3
      omega
    · show u.1 + 1 + 1 ≠ u.1 + 1 + 3
      omega
    refine xV.wf (fun wf2 => ?_)
    have hu : ∀ v, v = xput (hY (xnew u (.inr (6, xdf 6)) 13) u.1 B.length (pyF (nI tn) lo (nI B.length) (u.1 + 1) (u.1 + 2) (u.1 + 3) (u.1 + 4) (u.1 + 5) 0 0 (nI 0) (nI 0) 0) (rv (S2.1 (12, 0, 0)) B.length B.length) (rv (S2.1 (13, 0, 0)) B.length B.length) (rv (S2.1 (14, 0, 0)) B.length B.length)) (u.1 + 4) (iA B.length (fdc (S2.1 (4, 0, 0)) (rv (S2.1 (13, 0, 0)) B.length B.length) dl B.length B.length)) → v.2.1 = u.2.1 + 6 ∧ v.2.2.1 = u.2.2.1 + (13 + 5 * B.length) ∧ (∀ q, q < u.1 → xget v q = xget u q) ∧ xget v u.1 = some (.inr (6, pyF (nI tn) lo (nI B.length) (u.1 + 1) (u.1 + 2) (u.1 + 3) (u.1 + 4) (u.1 + 5) 0 0 (nI 0) (nI 0) 0)) ∧ xget v (u.1 + 1) = some (iA B.length (rv (S2.1 (12, 0, 0)) B.length B.length)) ∧ xget v (u.1 + 2) = some (iA B.length (rv (S2.1 (13, 0, 0)) B.length B.length)) ∧ xget v (u.1 + 3) = some (iA B.length (rv (S2.1 (14, 0, 0)) B.length B.length)) ∧ xget v (u.1 + 4) = some (iA B.length (fdc (S2.1 (4, 0, 0)) (rv (S2.1 (13, 0, 0)) B.length B.length) dl B.length B.length)) ∧ xget v (u.1 + 5) = some (iA B.length fun _ => 0) := by
      intro v hv
      subst hv
      refine ⟨rfl, by show u.2.2.1 + 13 + B.length + B.length + B.length + B.length + B.length = _; omega, fun q hq => ?_, ?_, ?_, ?_, ?_, xput_get, ?_⟩
      · rw [xput_ne (by omega), hY_o (Nat.lt_succ_of_lt hq) (by omega), xnew_ne (by omega)]
      · rw [xput_ne (by omega)]
        exact hY_0
      · rw [xput_ne (by omega)]
        exact hY_1 hl1
      · rw [xput_ne (by omega)]
        exact hY_2 hl1
      · rw [xput_ne (by omega)]
        exact hY_3 hl1
      · rw [xput_ne (by omega)]
        exact hY_5 hl1
    show xV D N0 mN_pay (d + 18) 89 [some (.ref (E (0, 0, 0))), some (.int fr), some (.int (nI tn)), some (.int am), some (.long lo), none, some (.int dl), some (.ref u.1)] [] (xput (hY (xnew u (.inr (6, xdf 6)) 13) u.1 B.length (pyF (nI tn) lo (nI B.length) (u.1 + 1) (u.1 + 2) (u.1 + 3) (u.1 + 4) (u.1 + 5) 0 0 (nI 0) (nI 0) 0) (rv (S2.1 (12, 0, 0)) B.length B.length) (rv (S2.1 (13, 0, 0)) B.length B.length) (rv (S2.1 (14, 0, 0)) B.length B.length)) (u.1 + 4) (iA B.length (fdc (S2.1 (4, 0, 0)) (rv (S2.1 (13, 0, 0)) B.length B.length) dl B.length B.length))) _
    replace wf2 : ∀ (q : Nat) (c : XC), xget (xput (hY (xnew u (.inr (6, xdf 6)) 13) u.1 B.length (pyF (nI tn) lo (nI B.length) (u.1 + 1) (u.1 + 2) (u.1 + 3) (u.1 + 4) (u.1 + 5) 0 0 (nI 0) (nI 0) 0) (rv (S2.1 (12, 0, 0)) B.length B.length) (rv (S2.1 (13, 0, 0)) B.length B.length) (rv (S2.1 (14, 0, 0)) B.length B.length)) (u.1 + 4) (iA B.length (fdc (S2.1 (4, 0, 0)) (rv (S2.1 (13, 0, 0)) B.length B.length) dl B.length B.length))) q = some c → q < (xput (hY (xnew u (.inr (6, xdf 6)) 13) u.1 B.length (pyF (nI tn) lo (nI B.length) (u.1 + 1) (u.1 + 2) (u.1 + 3) (u.1 + 4) (u.1 + 5) 0 0 (nI 0) (nI 0) 0) (rv (S2.1 (12, 0, 0)) B.length B.length) (rv (S2.1 (13, 0, 0)) B.length B.length) (rv (S2.1 (14, 0, 0)) B.length B.length)) (u.1 + 4) (iA B.length (fdc (S2.1 (4, 0, 0)) (rv (S2.1 (13, 0, 0)) B.length B.length) dl B.length B.length))).1 := wf2
    generalize xput (hY (xnew u (.inr (6, xdf 6)) 13) u.1 B.length (pyF (nI tn) lo (nI B.length) (u.1 + 1) (u.1 + 2) (u.1 + 3) (u.1 + 4) (u.1 + 5) 0 0 (nI 0) (nI 0) 0) (rv (S2.1 (12, 0, 0)) B.length B.length) (rv (S2.1 (13, 0, 0)) B.length B.length) (rv (S2.1 (14, 0, 0)) B.length B.length)) (u.1 + 4) (iA B.length (fdc (S2.1 (4, 0, 0)) (rv (S2.1 (13, 0, 0)) B.length B.length) dl B.length B.length)) = v at hu wf2 ⊢
    obtain ⟨v1, v2, v3, v4, v5, v6, v7, v8, v9⟩ := hu v rfl
    have zP : S2.2.2.2 (10, 0, 0) = S.2.2.2 (10, 0, 0) := congrFun z2.2 (10, 0, 0)
    obtain ⟨E', c, mo, u2, a1, a2, a3, a4, a5, a6, a7⟩ := z3.newP (D := D) (N0 := N0) (d := d + 11) (L := B.length) (tn := tn) (lo := lo) (dl := dl) wf wf2 (by rw [zP]; omega) v3 v4 v5 v6 v7 v8 v9 (by omega) (by omega)
    rw [zP] at a5
    have hl10 := z3.1 (10, 0, 0) kV_10
    rw [← a4] at hl10
    refine xV.step rfl ?_
    refine xV.get xcl_ok rfl ((v3 _ (lt _ kV_0)).trans z3.net) rfl ?_
    refine xV.step rfl ?_
    refine xV.cV rfl rfl hl10 rfl g_mN_pay_94 mA_add_ok (Nat.le_of_ble_eq_true rfl) (Nat.le_of_ble_eq_true rfl) a1 ?_
    have hne := a5.net
    rw [a2] at hne
    refine xV.step rfl ?_
    refine xV.step rfl ?_
    refine xV.get xcl_ok rfl hne rfl ?_
    refine xV.lsz a5.lP rfl g_mN_pay_85 (Nat.le_of_ble_eq_true rfl) ?_
    rw [show (czl (cpy0 S2 (S.2.2.2 (10, 0, 0) 0) B.length tn lo dl) (10, 0, 0) (S.2.2.2 (10, 0, 0) 0 + 1) c mo).2.2.2 (10, 0, 0) 0 = S.2.2.2 (10, 0, 0) 0 + 1 from zset_0 (cpy0 S2 (S.2.2.2 (10, 0, 0) 0) B.length tn lo dl).2.2.2 (10, 0, 0) (S.2.2.2 (10, 0, 0) 0 + 1) c]
    refine xV.step rfl ?_
    refine xV.step rfl ?_
    rw [xn_pred]
    exact xV.iret rfl rfl rfl ⟨S2, z2, z4, Or.inr ⟨hB, rfl, E', c, mo, a2, a5, by omega, by omega⟩⟩
  have g1 : ∀ t : Bool, decide (0 ≤ dl ∧ dl ≤ 1000000000) = t → xV D N0 mN_pay (d + 18) 23 (xargs 8 [.ref (E (0, 0, 0)), .int fr, .int (nI tn), .int am, .long lo, .int dl]) [.int (xB t)] h (xEd (ePayC S fr (nI tn) am dl) h (pyEnd D E S K h (cres S fr (nI tn) am) tn lo dl)) := by
    intro t ht
    refine xV.ckA rfl g_mN_pay_62 (Nat.le_of_ble_eq_true rfl) rfl hr0 (fun y => xEd_some (by unfold ePayC; rw [z]; show (if _ then _ else _) = _; rw [if_neg (of_decide_eq_false (ht.trans y))])) (fun y => ?_)
    have y1 := of_decide_eq_true (ht.trans y)
    refine xV.step rfl ?_
    refine xV.get xcl_ok rfl R.net rfl ?_
    refine xV.lsz R.lP rfl g_mN_pay_85 (Nat.le_of_ble_eq_true rfl) ?_
    refine xV.step rfl ?_
    refine xV.br rfl (fun h1 => ?_) (fun h1 => ?_)
    · refine xV.step rfl ?_
      refine g2 y1 false (decide_eq_false (fun w => ?_))
      rw [show (16 : Int32) = nI 16 from rfl, xn_le (by omega) (by omega)] at h1
      omega
    · refine xV.step rfl ?_
      refine xV.step rfl ?_
      refine g2 y1 true (decide_eq_true ?_)
      rw [show (16 : Int32) = nI 16 from rfl, xn_le (by omega) (by omega)] at h1
      omega
  refine xV.step rfl ?_
  refine xV.br rfl (fun h1 => ?_) (fun h1 => ?_)
  · refine xV.step rfl ?_
    exact g1 false (decide_eq_false (fun w => by have := w.1; simp only [Int32.lt_iff_toInt_lt, Int32.le_iff_toInt_le] at *; omega))
  refine xV.step rfl ?_
  refine xV.step rfl ?_
  refine xV.br rfl (fun h2 => ?_) (fun h2 => ?_)
  · refine xV.step rfl ?_
    exact g1 false (decide_eq_false (fun w => by have := w.2; simp only [Int32.lt_iff_toInt_lt, Int32.le_iff_toInt_le] at *; omega))
  · refine xV.step rfl ?_
    refine xV.step rfl ?_
    exact g1 true (decide_eq_true ⟨by simp only [Int32.lt_iff_toInt_lt, Int32.le_iff_toInt_le] at *; omega, by simp only [Int32.lt_iff_toInt_lt, Int32.le_iff_toInt_le] at *; omega⟩)
end X78
