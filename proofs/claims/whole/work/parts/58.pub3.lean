/- Part 58: public methods with a switch; hop. -/
def ePayt (S : CS) (p w : Int32) : Option Nat := if pAt S p = true then (if 0 ≤ w ∧ w ≤ 3 then none else some 9) else some 8
def rPaytC (S : CS) (j : Nat) (w : Int32) : Int32 := if w = 0 then S.1 (27, j, 0) 8 else if w = 1 then S.1 (27, j, 0) 9 else if w = 2 then nI (S.2.2.1 (27, j, 0) 10) else S.1 (27, j, 0) 12
def eMade (S : CS) (c k w : Int32) (j : Nat) : Option Nat := if cAt S c = true ∧ inr0 k (S.2.2.2 (24, j, 0) 0) = true then (if 0 ≤ w ∧ w ≤ 3 then none else some 9) else some 8
def rMadeC (S : CS) (j q : Nat) (w : Int32) : Int32 := if w = 0 then nI (S.2.2.1 (26, j, q) 0) else if w = 1 then S.1 (26, j, q) 2 else if w = 2 then S.1 (26, j, q) 4 else xB (isIn0 (S.1 (26, j, q) 5) (S.1 (26, j, q) 6) (nI (S.2.2.1 (21, j, 0) 5)))
def eState (S : CS) (c s w : Int32) (j : Nat) : Option Nat := if cAt S c = true ∧ (0 ≤ s ∧ s ≤ nI (S.2.2.1 (21, j, 0) 5)) then (if 0 ≤ w ∧ w ≤ 3 then none else some 9) else some 8
def rStateC (S : CS) (j l : Nat) (w : Int32) : Int32 := if w = 0 then S.1 (22, j, 0) l else if w = 1 then S.1 (23, j, 0) l else if w = 2 then cpr (fun k => S.1 (26, j, k) 5) (fun k => S.1 (26, j, k) 6) (nI l) (S.2.2.2 (24, j, 0) 0) else spr (fun k => S.1 (26, j, k) 2) (fun k => S.1 (26, j, k) 5) (fun k => S.1 (26, j, k) 6) (nI l) (S.2.2.2 (24, j, 0) 0)
def eHop (S : CS) (i : Int32) : Option Nat := if i = -1 ∨ (0 ≤ i ∧ i < nI (S.2.2.1 (11, 0, 0) 0)) then none else some 8
def rHopC (S : CS) (q : Nat) (i : Int32) : Int32 := if i = -1 then nI (S.2.2.1 (11, 0, 0) 0) else S.1 (12, 0, 0) (S.2.2.1 (11, 0, 0) 0 - 1 - q)
section X58
variable {D : va_G} {N0 : Nat} {d dc : Nat} {h : XH} {E : RO → Nat} {S : CS} {K : Nat → Option XC}
theorem c_N_payment (R : Rep E dc S K h) (hr : xrm h) {j : Nat} {p w : Int32} (hp : pAt S p = true → p = nI j ∧ j < S.2.2.2 (10, 0, 0) 0) : xV D N0 mN_payment (d + 8) 0 (xargs 4 [.ref (E (0, 0, 0)), .int p, .int w]) [] h (xEd (ePayt S p w) h (xEq (.returned (some (.int (rPaytC S j w)))) h)) := by
  refine xV.step rfl ?_
  refine xV.step rfl ?_
  refine xV.gV rfl rfl R.net rfl g_mN_payment_226 mN_paymentAt_ok (Nat.le_of_ble_eq_true rfl) (Nat.le_of_ble_eq_true rfl) rfl (R.pyW hr hp) (fun z => xEd_some (by unfold ePayt; rw [if_neg (by rw [z]; decide)])) (fun z => ?_)
  have hj := (hp z).2
  have yes : w = 0 ∨ w = 1 ∨ w = 2 ∨ w = 3 → ePayt S p w = none := fun vv => by
    unfold ePayt
    rw [if_pos z, if_pos]
    rcases vv with rfl | rfl | rfl | rfl <;> decide
  have no : (w.toInt < 0 ∨ 3 < w.toInt) → ePayt S p w = some 9 := fun vv => by
    unfold ePayt
    rw [if_pos z, if_neg]
    intro t
    rw [Int32.le_iff_toInt_le, Int32.le_iff_toInt_le] at t
    have e0 : (0 : Int32).toInt = 0 := rfl
    have e3 : (3 : Int32).toInt = 3 := rfl
    omega
  refine xV.step rfl ?_
  refine xV.step rfl ?_
  show xV D N0 mN_payment (d + 8) 7 [some (.ref (E (0, 0, 0))), some (.int p), some (.int w), some (.ref (E (27, j, 0)))] [.int w] h _
  by_cases w0 : w = 0
  · subst w0
    refine xV.tIn (tgt := 36) rfl (by decide) (by decide) rfl rfl ?_
    refine xV.step rfl ?_
    refine xV.get xcl_ok rfl (R.paym hj) rfl ?_
    exact xV.iret rfl rfl rfl (xEd_none (yes (by simp)) ⟨rfl, rfl⟩)
  by_cases w1 : w = 1
  · subst w1
    refine xV.tIn (tgt := 41) rfl (by decide) (by decide) rfl rfl ?_
    refine xV.step rfl ?_
    refine xV.get xcl_ok rfl (R.paym hj) rfl ?_
    exact xV.iret rfl rfl rfl (xEd_none (yes (by simp)) ⟨rfl, rfl⟩)
  by_cases w2 : w = 2
  · subst w2
    refine xV.tIn (tgt := 46) rfl (by decide) (by decide) rfl rfl ?_
    refine xV.step rfl ?_
    refine xV.get xcl_ok rfl (R.paym hj) rfl ?_
    exact xV.iret rfl rfl rfl (xEd_none (yes (by simp)) ⟨rfl, rfl⟩)
  by_cases w3 : w = 3
  · subst w3
    refine xV.tIn (tgt := 51) rfl (by decide) (by decide) rfl rfl ?_
    refine xV.step rfl ?_
    refine xV.get xcl_ok rfl (R.paym hj) rfl ?_
    exact xV.iret rfl rfl rfl (xEd_none (yes (by simp)) ⟨rfl, rfl⟩)
  have ho := sw_out (w := w) (n := 4) (by omega) (fun k hk => by
    match k, hk with
    | 0, _ => exact w0
    | 1, _ => exact w1
    | 2, _ => exact w2
    | 3, _ => exact w3)
  refine xV.tOut (tgt := 56) rfl ho rfl ?_
  exact xV.throw (names := xsup) (ci := 9) (text := "no such what") rfl rfl (Or.inl rfl) rfl rfl rfl (by decide +kernel) (by decide +kernel) (xin_W lnk_ia _ List.mem_cons_self) (xin_W lnk_ia _ (List.mem_cons_of_mem _ List.mem_cons_self)) (xin_W thr_ia) rfl (by decide) rfl (by simp [xsup]) (Nat.le_of_ble_eq_true rfl) hr.1 hr.2 (xEd_some (no ho))
theorem c_N_made (R : Rep E dc S K h) (hr : xrm h) {j q : Nat} {c k w : Int32} (hc : cAt S c = true → c = nI j ∧ j < S.2.2.2 (9, 0, 0) 0) (hk : cAt S c = true → inr0 k (S.2.2.2 (24, j, 0) 0) = true → k = nI q ∧ q < S.2.2.2 (24, j, 0) 0) : xV D N0 mN_made (d + 8) 0 (xargs 6 [.ref (E (0, 0, 0)), .int c, .int k, .int w]) [] h (xEd (eMade S c k w j) h (xEq (.returned (some (.int (rMadeC S j q w)))) h)) := by
  refine xV.step rfl ?_
  refine xV.step rfl ?_
  refine xV.gV rfl rfl R.net rfl g_mN_made_98 mN_channelAt_ok (Nat.le_of_ble_eq_true rfl) (Nat.le_of_ble_eq_true rfl) rfl (R.chW hr hc) (fun z => xEd_some (by unfold eMade; rw [if_neg (fun y => by rw [z] at y; cases y.1)])) (fun z => ?_)
  have hj := (hc z).2
  refine xV.step rfl ?_
  show xV D N0 mN_made (d + 8) 7 [some (.ref (E (0, 0, 0))), some (.int c), some (.int k), some (.int w), some (.ref (E (21, j, 0))), none] [] h _
  refine xV.step rfl ?_
  refine xV.step rfl ?_
  refine xV.gS rfl rfl g_mN_made_189 mN_promiseOf_ok (Nat.le_of_ble_eq_true rfl) (Nat.le_of_ble_eq_true rfl) rfl (c_N_promiseOf (q := fun i => E (26, j, i)) (R.chan hj) (R.lK hj) (hk z) (fun y => ⟨_, R.prom hj (hk z y).2⟩) hr) (fun y => xEd_some (by unfold eMade; rw [if_neg (fun t => by rw [y] at t; cases t.2)])) (fun y => ?_)
  have hq := (hk z y).2
  have yes : w = 0 ∨ w = 1 ∨ w = 2 ∨ w = 3 → eMade S c k w j = none := fun vv => by
    unfold eMade
    rw [if_pos ⟨z, y⟩, if_pos]
    rcases vv with rfl | rfl | rfl | rfl <;> decide
  have no : (w.toInt < 0 ∨ 3 < w.toInt) → eMade S c k w j = some 9 := fun vv => by
    unfold eMade
    rw [if_pos ⟨z, y⟩, if_neg]
    intro t
    rw [Int32.le_iff_toInt_le, Int32.le_iff_toInt_le] at t
    have e0 : (0 : Int32).toInt = 0 := rfl
    have e3 : (3 : Int32).toInt = 3 := rfl
    omega
  refine xV.step rfl ?_
  refine xV.step rfl ?_
  show xV D N0 mN_made (d + 8) 16 [some (.ref (E (0, 0, 0))), some (.int c), some (.int k), some (.int w), some (.ref (E (21, j, 0))), some (.ref (E (26, j, q)))] [.int w] h _
  by_cases w0 : w = 0
  · subst w0
    refine xV.tIn (tgt := 48) rfl (by decide) (by decide) rfl rfl ?_
    refine xV.step rfl ?_
    refine xV.get xcl_ok rfl (R.prom hj hq) rfl ?_
    exact xV.iret rfl rfl rfl (xEd_none (yes (by simp)) ⟨rfl, rfl⟩)
  by_cases w1 : w = 1
  · subst w1
    refine xV.tIn (tgt := 54) rfl (by decide) (by decide) rfl rfl ?_
    refine xV.step rfl ?_
    refine xV.get xcl_ok rfl (R.prom hj hq) rfl ?_
    exact xV.iret rfl rfl rfl (xEd_none (yes (by simp)) ⟨rfl, rfl⟩)
  by_cases w2 : w = 2
  · subst w2
    refine xV.tIn (tgt := 60) rfl (by decide) (by decide) rfl rfl ?_
    refine xV.step rfl ?_
    refine xV.get xcl_ok rfl (R.prom hj hq) rfl ?_
    exact xV.iret rfl rfl rfl (xEd_none (yes (by simp)) ⟨rfl, rfl⟩)
  by_cases w3 : w = 3
  · subst w3
    refine xV.tIn (tgt := 66) rfl (by decide) (by decide) rfl rfl ?_
    refine xV.step rfl ?_
    refine xV.step rfl ?_
    refine xV.get xcl_ok rfl (R.chan hj) rfl ?_
    refine xV.cV rfl rfl (R.prom hj hq) rfl g_mN_made_195 mP_isIn_ok (Nat.le_of_ble_eq_true rfl) (Nat.le_of_ble_eq_true rfl) (c_P_isIn (R.prom hj hq)) ?_
    refine xV.br rfl (fun h1 => ?_) (fun h1 => ?_)
    · refine xV.step rfl ?_
      exact xV.iret rfl rfl rfl (xEd_none (yes (by simp)) ⟨by show _ = Outcome.returned (some (.int (xB _))); rw [xB_f h1]; rfl, rfl⟩)
    · refine xV.step rfl ?_
      refine xV.step rfl ?_
      exact xV.iret rfl rfl rfl (xEd_none (yes (by simp)) ⟨by show _ = Outcome.returned (some (.int (xB _))); rw [xB_t h1]; rfl, rfl⟩)
  have ho := sw_out (w := w) (n := 4) (by omega) (fun k hk => by
    match k, hk with
    | 0, _ => exact w0
    | 1, _ => exact w1
    | 2, _ => exact w2
    | 3, _ => exact w3)
  refine xV.tOut (tgt := 85) rfl ho rfl ?_
  exact xV.throw (names := xsup) (ci := 9) (text := "no such what") rfl rfl (Or.inl rfl) rfl rfl rfl (by decide +kernel) (by decide +kernel) (xin_W lnk_ia _ List.mem_cons_self) (xin_W lnk_ia _ (List.mem_cons_of_mem _ List.mem_cons_self)) (xin_W thr_ia) rfl (by decide) rfl (by simp [xsup]) (Nat.le_of_ble_eq_true rfl) hr.1 hr.2 (xEd_some (no ho))
theorem c_N_state (R : Rep E dc S K h) (hr : xrm h) {j l : Nat} {c s w : Int32} (hc : cAt S c = true → c = nI j ∧ j < S.2.2.2 (9, 0, 0) 0 ∧ S.2.2.2 (24, j, 0) 0 ≤ 64) (hs : cAt S c = true → 0 ≤ s ∧ s ≤ nI (S.2.2.1 (21, j, 0) 5) → s = nI l ∧ l < 64) : xV D N0 mN_state (d + 8) 0 (xargs 5 [.ref (E (0, 0, 0)), .int c, .int s, .int w]) [] h (xEd (eState S c s w j) h (xEq (.returned (some (.int (rStateC S j l w)))) h)) := by
  refine xV.step rfl ?_
  refine xV.step rfl ?_
  refine xV.gV rfl rfl R.net rfl g_mN_state_98 mN_channelAt_ok (Nat.le_of_ble_eq_true rfl) (Nat.le_of_ble_eq_true rfl) rfl (R.chW hr (fun z => ⟨(hc z).1, (hc z).2.1⟩)) (fun z => xEd_some (by unfold eState; rw [if_neg (fun y => by rw [z] at y; cases y.1)])) (fun z => ?_)
  obtain ⟨-, hj, hn⟩ := hc z
  refine xV.step rfl ?_
  show xV D N0 mN_state (d + 8) 7 [some (.ref (E (0, 0, 0))), some (.int c), some (.int s), some (.int w), some (.ref (E (21, j, 0)))] [] h _
  refine xV.step rfl ?_
  refine xV.step rfl ?_
  refine xV.cV rfl rfl (R.chan hj) rfl g_mN_state_177 mC_hasState_ok (Nat.le_of_ble_eq_true rfl) (Nat.le_of_ble_eq_true rfl) (c_C_hasState (R.chan hj)) ?_
  refine xV.ckI rfl g_mN_state_106 (Nat.le_of_ble_eq_true rfl) rfl hr (fun y => xEd_some (by unfold eState; rw [if_neg (fun t => of_decide_eq_false y t.2)])) (fun y => ?_)
  have y1 := of_decide_eq_true y
  obtain ⟨rfl, hl⟩ := hs z y1
  have yes : w = 0 ∨ w = 1 ∨ w = 2 ∨ w = 3 → eState S c (nI l) w j = none := fun vv => by
    unfold eState
    rw [if_pos ⟨z, y1⟩, if_pos]
    rcases vv with rfl | rfl | rfl | rfl <;> decide
  have no : (w.toInt < 0 ∨ 3 < w.toInt) → eState S c (nI l) w j = some 9 := fun vv => by
    unfold eState
    rw [if_pos ⟨z, y1⟩, if_neg]
    intro t
    rw [Int32.le_iff_toInt_le, Int32.le_iff_toInt_le] at t
    have e0 : (0 : Int32).toInt = 0 := rfl
    have e3 : (3 : Int32).toInt = 3 := rfl
    omega
  refine xV.step rfl ?_
  by_cases w0 : w = 0
  · subst w0
    refine xV.tIn (tgt := 48) rfl (by decide) (by decide) rfl rfl ?_
    refine xV.step rfl ?_
    refine xV.get xcl_ok rfl (R.chan hj) rfl ?_
    refine xV.step rfl ?_
    refine xV.ii (j := l) rfl (R.chan1 hj) rfl hl (by omega) ?_
    exact xV.iret rfl rfl rfl (xEd_none (yes (by simp)) ⟨rfl, rfl⟩)
  by_cases w1 : w = 1
  · subst w1
    refine xV.tIn (tgt := 56) rfl (by decide) (by decide) rfl rfl ?_
    refine xV.step rfl ?_
    refine xV.get xcl_ok rfl (R.chan hj) rfl ?_
    refine xV.step rfl ?_
    refine xV.ii (j := l) rfl (R.chan2 hj) rfl hl (by omega) ?_
    exact xV.iret rfl rfl rfl (xEd_none (yes (by simp)) ⟨rfl, rfl⟩)
  by_cases w2 : w = 2
  · subst w2
    refine xV.tIn (tgt := 64) rfl (by decide) (by decide) rfl rfl ?_
    refine xV.step rfl ?_
    refine xV.step rfl ?_
    refine xV.cV rfl rfl (R.chan hj) rfl g_mN_state_150 mC_promisesIn_ok (Nat.le_of_ble_eq_true rfl) (Nat.le_of_ble_eq_true rfl) (c_C_promisesIn (R.chan hj) (R.lK hj) hn (R.aP hj)) ?_
    exact xV.iret rfl rfl rfl (xEd_none (yes (by simp)) ⟨rfl, rfl⟩)
  by_cases w3 : w = 3
  · subst w3
    refine xV.tIn (tgt := 71) rfl (by decide) (by decide) rfl rfl ?_
    refine xV.step rfl ?_
    refine xV.step rfl ?_
    refine xV.cV rfl rfl (R.chan hj) rfl g_mN_state_186 mC_promisedIn_ok (Nat.le_of_ble_eq_true rfl) (Nat.le_of_ble_eq_true rfl) (c_C_promisedIn (R.chan hj) (R.lK hj) hn (R.aP hj)) ?_
    exact xV.iret rfl rfl rfl (xEd_none (yes (by simp)) ⟨rfl, rfl⟩)
  have ho := sw_out (w := w) (n := 4) (by omega) (fun k hk => by
    match k, hk with
    | 0, _ => exact w0
    | 1, _ => exact w1
    | 2, _ => exact w2
    | 3, _ => exact w3)
  refine xV.tOut (tgt := 78) rfl ho rfl ?_
  exact xV.throw (names := xsup) (ci := 9) (text := "no such what") rfl rfl (Or.inl rfl) rfl rfl rfl (by decide +kernel) (by decide +kernel) (xin_W lnk_ia _ List.mem_cons_self) (xin_W lnk_ia _ (List.mem_cons_of_mem _ List.mem_cons_self)) (xin_W thr_ia) rfl (by decide) rfl (by simp [xsup]) (Nat.le_of_ble_eq_true rfl) hr.1 hr.2 (xEd_some (no ho))
theorem c_N_hop (R : Rep E dc S K h) (hr : xrm h) {q : Nat} {i : Int32} (hl : S.2.2.1 (11, 0, 0) 0 ≤ 5) (hi : 0 ≤ i ∧ i < nI (S.2.2.1 (11, 0, 0) 0) → i = nI q ∧ q < S.2.2.1 (11, 0, 0) 0) : xV D N0 mN_hop (d + 8) 0 (xargs 2 [.ref (E (0, 0, 0)), .int i]) [] h (xEd (eHop S i) h (xEq (.returned (some (.int (rHopC S q i)))) h)) := by
  refine xV.step rfl ?_
  refine xV.step rfl ?_
  refine xV.br rfl (fun h1 => ?_) (fun h1 => ?_)
  · refine xV.step rfl ?_
    refine xV.get xcl_ok rfl R.net rfl ?_
    refine xV.get xcl_ok rfl R.best rfl ?_
    exact xV.iret rfl rfl rfl (xEd_none (by unfold eHop; rw [if_pos (Or.inl h1)]) ⟨by unfold rHopC; rw [if_pos h1], rfl⟩)
  have go : ∀ b : Bool, decide (0 ≤ i ∧ i < nI (S.2.2.1 (11, 0, 0) 0)) = b → xV D N0 mN_hop (d + 8) 33 (xargs 2 [.ref (E (0, 0, 0)), .int i]) [.int (xB b)] h (xEd (eHop S i) h (xEq (.returned (some (.int (rHopC S q i)))) h)) := by
    intro b hb
    refine xV.ckI rfl g_mN_hop_106 (Nat.le_of_ble_eq_true rfl) rfl hr (fun y => xEd_some (by unfold eHop; rw [if_neg (fun t => t.elim h1 (of_decide_eq_false (hb.trans y)))])) (fun y => ?_)
    have y1 := of_decide_eq_true (hb.trans y)
    obtain ⟨rfl, hq⟩ := hi y1
    refine xV.step rfl ?_
    refine xV.get xcl_ok rfl R.net rfl ?_
    refine xV.get xcl_ok rfl R.best rfl ?_
    refine xV.step rfl ?_
    refine xV.get xcl_ok rfl R.net rfl ?_
    refine xV.step rfl ?_
    refine xV.cV rfl rfl R.best rfl g_mN_hop_213 mR_slot_ok (Nat.le_of_ble_eq_true rfl) (Nat.le_of_ble_eq_true rfl) (c_R_slot R.best) ?_
    refine xV.ii (j := S.2.2.1 (11, 0, 0) 0 - 1 - q) rfl R.best1 (by rw [show (1 : Int32) = nI 1 from rfl, xn_sub (by omega), xn_sub (by omega)]) (by omega) (by omega) ?_
    exact xV.iret rfl rfl rfl (xEd_none (by unfold eHop; rw [if_pos (Or.inr y1)]) ⟨by unfold rHopC; rw [if_neg h1], rfl⟩)
  refine xV.step rfl ?_
  refine xV.br rfl (fun h2 => ?_) (fun h2 => ?_)
  · refine xV.step rfl ?_
    exact go false (decide_eq_false (fun t => by have := t.1; simp only [Int32.lt_iff_toInt_lt, Int32.le_iff_toInt_le] at *; omega))
  refine xV.step rfl ?_
  refine xV.step rfl ?_
  refine xV.get xcl_ok rfl R.net rfl ?_
  refine xV.get xcl_ok rfl R.best rfl ?_
  refine xV.br rfl (fun h3 => ?_) (fun h3 => ?_)
  · refine xV.step rfl ?_
    exact go false (decide_eq_false (fun t => by have := t.2; simp only [Int32.lt_iff_toInt_lt, Int32.le_iff_toInt_le] at *; omega))
  · refine xV.step rfl ?_
    refine xV.step rfl ?_
    exact go true (decide_eq_true ⟨by simp only [Int32.lt_iff_toInt_lt, Int32.le_iff_toInt_le] at *; omega, by simp only [Int32.lt_iff_toInt_lt, Int32.le_iff_toInt_le] at *; omega⟩)
end X58
