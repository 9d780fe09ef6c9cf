/- Part 62: punishAsWatched, grow. -/
theorem cpunc_w (S : CS) (j : Nat) (q : RO) : (cpunc S j).2.2.1 q = S.2.2.1 q := by
  unfold cpunc
  rw [cset_w, cfI_w]
  by_cases e : q = (21, j, 0)
  · rw [if_pos e, e]
  · rw [if_neg e]
theorem cpunc_z (S : CS) (j : Nat) : (cpunc S j).2.2.2 = S.2.2.2 := rfl
theorem cOK.of {S T : CS} (h : cOK S) (hw : ∀ q, T.2.2.1 q = S.2.2.1 q) (hz : T.2.2.2 = S.2.2.2) : cOK T := by
  unfold cOK chOK at *
  simp only [hw, hz]
  exact h
def cw1 (S : CS) (n : Int32) (j : Nat) : CS × Int32 := if cmay S j = true ∧ S.1 (5, 0, 0) (cpv S j) ≠ 0 then (cpunc S j, n + 1) else (S, n)
def cwi : CS → Int32 → Nat → Nat → CS × Int32
  | S, n, _, 0 => (S, n)
  | S, n, j, m + 1 => cwi (cw1 S n j).1 (cw1 S n j).2 (j + 1) m
def cgi : CS → Int32 → Nat → CS × Int32
  | S, n, 0 => (S, n)
  | S, n, m + 1 => cgi (cwi (cfI S (0, 0, 0) 0 (S.1 (0, 0, 0) 0 + 1)) 0 0 (S.2.2.2 (9, 0, 0) 0)).1 (n + (cwi (cfI S (0, 0, 0) 0 (S.1 (0, 0, 0) 0 + 1)) 0 0 (S.2.2.2 (9, 0, 0) 0)).2) m
theorem cw1_w (S : CS) (n : Int32) (j : Nat) : (∀ q, (cw1 S n j).1.2.2.1 q = S.2.2.1 q) ∧ (cw1 S n j).1.2.2.2 = S.2.2.2 := by
  unfold cw1
  split
  · exact ⟨cpunc_w S j, rfl⟩
  · exact ⟨fun _ => rfl, rfl⟩
theorem cwi_w : ∀ (m : Nat) (S : CS) (n : Int32) (j : Nat), (∀ q, (cwi S n j m).1.2.2.1 q = S.2.2.1 q) ∧ (cwi S n j m).1.2.2.2 = S.2.2.2
  | 0, _, _, _ => ⟨fun _ => rfl, rfl⟩
  | m + 1, S, n, j => by
    have h1 := cw1_w S n j
    have h2 := cwi_w m (cw1 S n j).1 (cw1 S n j).2 (j + 1)
    exact ⟨fun q => (h2.1 q).trans (h1.1 q), h2.2.trans h1.2⟩
section X62
variable {D : va_G} {N0 : Nat} {d dc : Nat} {E : RO → Nat} {K : Nat → Option XC}
theorem c_N_punishAsWatched_loop {C : Nat} (hC : C ≤ 1024) : ∀ (m j : Nat) (S : CS) (h : XH) (n : Int32) (c3 : Option Value), j + m = C → S.2.2.2 (9, 0, 0) 0 = C → Rep E dc S K h → cOK S →
    xV D N0 mN_punishAsWatched (d + 4) 4 [some (.ref (E (0, 0, 0))), some (.int n), some (.int (nI j)), c3] [] h (fun o u => o = .returned (some (.int (cwi S n j m).2)) ∧ Rep E dc (cwi S n j m).1 K u ∧ xSz h u) := by
  intro m
  induction m with
  | zero =>
    intro j S h n c3 hj hz R hO
    refine xV.step rfl ?_
    refine xV.step rfl ?_
    refine xV.get xcl_ok rfl R.net rfl ?_
    refine xV.lsz R.lC rfl g_mN_punishAsWatched_85 (Nat.le_of_ble_eq_true rfl) ?_
    refine xV.br rfl (fun h1 => ?_) (fun h1 => ?_)
    · refine xV.step rfl ?_
      exact xV.iret rfl rfl rfl ⟨rfl, R, rfl, rfl, rfl⟩
    · rw [hz, xn_le (by omega) (by omega)] at h1
      omega
  | succ m ih =>
    intro j S h n c3 hj hz R hO
    have hjC : j < S.2.2.2 (9, 0, 0) 0 := by omega
    refine xV.step rfl ?_
    refine xV.step rfl ?_
    refine xV.get xcl_ok rfl R.net rfl ?_
    refine xV.lsz R.lC rfl g_mN_punishAsWatched_85 (Nat.le_of_ble_eq_true rfl) ?_
    refine xV.br rfl (fun h1 => ?_) (fun h1 => ?_)
    · rw [hz, xn_le (by omega) (by omega)] at h1
      omega
    refine xV.step rfl ?_
    refine xV.get xcl_ok rfl R.net rfl ?_
    refine xV.step rfl ?_
    refine xV.lgt R.lC rfl hjC rfl g_mN_punishAsWatched_298 (Nat.le_of_ble_eq_true rfl) ?_
    refine xV.cast rfl (R.chan hjC) rfl k_mN_punishAsWatched_89 ?_
    refine xV.step rfl ?_
    show xV D N0 mN_punishAsWatched (d + 4) 27 [some (.ref (E (0, 0, 0))), some (.int n), some (.int (nI j)), some (.ref (E (21, j, 0)))] [] h _
    refine xV.step rfl ?_
    refine xV.step rfl ?_
    refine xV.get xcl_ok rfl R.net rfl ?_
    refine xV.cV rfl rfl (R.chan hjC) rfl g_mN_punishAsWatched_258 mC_isPunishable_ok (Nat.le_of_ble_eq_true rfl) (Nat.le_of_ble_eq_true rfl) (c_C_isPunishable (R.chan hjC)) ?_
    refine xV.br rfl (fun h2 => ?_) (fun h2 => ?_)
    · have e : cw1 S n j = (S, n) := by unfold cw1; rw [if_neg (fun t => by have := t.1; unfold cmay at this; rw [xB_f h2] at this; cases this)]
      have ih := ih (j + 1) S h n (some (.ref (E (21, j, 0)))) (by omega) hz R hO
      rw [← xn_succ] at ih
      refine xV.step rfl ?_
      refine xV.step rfl ?_
      unfold cwi
      rw [e]
      exact ih
    refine xV.step rfl ?_
    refine xV.get xcl_ok rfl R.net rfl ?_
    refine xV.step rfl ?_
    refine xV.cV rfl rfl (R.chan hjC) rfl g_mN_punishAsWatched_265 mC_punisher_ok (Nat.le_of_ble_eq_true rfl) (Nat.le_of_ble_eq_true rfl) (c_C_punisher (R.chan hjC)) ?_
    rw [cpv_eq]
    refine xV.zald rfl R.watch (xn_in (cpv_lt (hO.1 j hjC)) (by omega)) ?_
    have hv := cpv_lt (hO.1 j hjC)
    rw [xn_clamp (by omega)]
    refine xV.br rfl (fun h3 => ?_) (fun h3 => ?_)
    · have e : cw1 S n j = (S, n) := by unfold cw1; rw [if_neg (fun t => t.2 h3)]
      have ih := ih (j + 1) S h n (some (.ref (E (21, j, 0)))) (by omega) hz R hO
      rw [← xn_succ] at ih
      refine xV.step rfl ?_
      refine xV.step rfl ?_
      unfold cwi
      rw [e]
      exact ih
    · have e : cw1 S n j = (cpunc S j, n + 1) := by unfold cw1; rw [if_pos ⟨xB_t h2, h3⟩]
      refine xV.step rfl ?_
      refine xV.step rfl ?_
      refine xV.cV rfl rfl R.net rfl g_mN_punishAsWatched_261 mN_payPunisher_ok (Nat.le_of_ble_eq_true rfl) (Nat.le_of_ble_eq_true rfl) (R.punW hjC (hO.1 j hjC)) ?_
      have ih := ih (j + 1) (cpunc S j) _ (n + 1) (some (.ref (E (21, j, 0)))) (by omega) hz (R.punc hjC) (hO.of (cpunc_w S j) rfl)
      rw [← xn_succ] at ih
      refine xV.step rfl ?_
      refine xV.step rfl ?_
      refine xV.step rfl ?_
      unfold cwi
      rw [e]
      refine xV.mono ?_ ih
      rintro o u ⟨q1, q2, q3, q4, q5⟩
      exact ⟨q1, q2, q3, q4, q5⟩
theorem c_N_punishAsWatched {S : CS} {h : XH} (R : Rep E dc S K h) (hO : cOK S) (hC : S.2.2.2 (9, 0, 0) 0 ≤ 8) :
    xV D N0 mN_punishAsWatched (d + 4) 0 (xargs 4 [.ref (E (0, 0, 0))]) [] h (fun o u => o = .returned (some (.int (cwi S 0 0 (S.2.2.2 (9, 0, 0) 0)).2)) ∧ Rep E dc (cwi S 0 0 (S.2.2.2 (9, 0, 0) 0)).1 K u ∧ xSz h u) := by
  refine xV.step rfl ?_
  refine xV.step rfl ?_
  refine xV.step rfl ?_
  refine xV.step rfl ?_
  exact c_N_punishAsWatched_loop (C := S.2.2.2 (9, 0, 0) 0) (by omega) _ 0 S h 0 none (by omega) rfl R hO
def eGrow (n : Int32) : Option Nat := if 0 ≤ n ∧ n ≤ 1000 then none else some 9
theorem c_N_grow_loop {N : Nat} (hN : N ≤ 1000) : ∀ (m i : Nat) (S : CS) (h : XH) (n : Int32), i + m = N → Rep E dc S K h → cOK S → S.2.2.2 (9, 0, 0) 0 ≤ 8 →
    xV D N0 mN_grow (d + 5) 23 [some (.ref (E (0, 0, 0))), some (.int (nI N)), some (.int n), some (.int (nI i))] [] h (fun o u => o = .returned (some (.int (cgi S n m).2)) ∧ Rep E dc (cgi S n m).1 K u ∧ xSz h u) := by
  intro m
  induction m with
  | zero =>
    intro i S h n hi R hO hC
    obtain rfl : i = N := by omega
    refine xV.step rfl ?_
    refine xV.step rfl ?_
    refine xV.br rfl (fun h1 => ?_) (fun h1 => ?_)
    · refine xV.step rfl ?_
      exact xV.iret rfl rfl rfl ⟨rfl, R, rfl, rfl, rfl⟩
    · rw [xn_le (by omega) (by omega)] at h1
      omega
  | succ m ih =>
    intro i S h n hi R hO hC
    refine xV.step rfl ?_
    refine xV.step rfl ?_
    refine xV.br rfl (fun h1 => ?_) (fun h1 => ?_)
    · rw [xn_le (by omega) (by omega)] at h1
      omega
    refine xV.step rfl ?_
    refine xV.step rfl ?_
    refine xV.get xcl_ok rfl R.net rfl ?_
    refine xV.step rfl ?_
    refine xV.step rfl ?_
    refine xV.put xcl_ok rfl R.net rfl rfl rfl (Nat.le_of_ble_eq_true rfl) ?_
    have R1 : Rep E dc (cfI S (0, 0, 0) 0 (S.1 (0, 0, 0) 0 + 1)) K _ := R.put kV_0 (upd (S.1 (0, 0, 0)) 0 (S.1 (0, 0, 0) 0 + 1)) (S.2.1 (0, 0, 0)) (S.2.2.1 (0, 0, 0))
    have hO1 : cOK (cfI S (0, 0, 0) 0 (S.1 (0, 0, 0) 0 + 1)) := hO.of (fun q => cfI_w _ _ _ _ _) rfl
    refine xV.step rfl ?_
    refine xV.step rfl ?_
    refine xV.callV (n := 0) (as := []) rfl rfl R1.net rfl g_mN_grow_282 mN_punishAsWatched_ok (Nat.le_of_ble_eq_true rfl) (Nat.le_of_ble_eq_true rfl) (c_N_punishAsWatched R1 hO1 hC) (fun w u hz => ?_) (fun a u hz => by cases hz.1)
    obtain ⟨e1, e2, e3⟩ := hz
    cases e1
    refine xV.step rfl ?_
    refine xV.step rfl ?_
    show xV D N0 mN_grow (d + 5) 45 [some (.ref (E (0, 0, 0))), some (.int (nI N)), some (.int (n + (cwi (cfI S (0, 0, 0) 0 (S.1 (0, 0, 0) 0 + 1)) 0 0 (S.2.2.2 (9, 0, 0) 0)).2)), some (.int (nI i))] [] u _
    have hw := cwi_w (S.2.2.2 (9, 0, 0) 0) (cfI S (0, 0, 0) 0 (S.1 (0, 0, 0) 0 + 1)) 0 0
    have ih := ih (i + 1) _ u (n + (cwi (cfI S (0, 0, 0) 0 (S.1 (0, 0, 0) 0 + 1)) 0 0 (S.2.2.2 (9, 0, 0) 0)).2) (by omega) e2 (hO1.of hw.1 hw.2) (Nat.le_trans (Nat.le_of_eq (congrFun (congrFun hw.2 (9, 0, 0)) 0)) hC)
    rw [← xn_succ] at ih
    refine xV.step rfl ?_
    refine xV.step rfl ?_
    unfold cgi
    refine xV.mono ?_ ih
    rintro o u2 ⟨q1, q2, q3⟩
    exact ⟨q1, q2, e3.trans q3⟩
theorem c_N_grow {S : CS} {h : XH} (R : Rep E dc S K h) (hr : xrm h) (hO : cOK S) (hC : S.2.2.2 (9, 0, 0) 0 ≤ 8) {N : Nat} {n : Int32} (hn : 0 ≤ n ∧ n ≤ 1000 → n = nI N ∧ N ≤ 1000) :
    xV D N0 mN_grow (d + 8) 0 (xargs 4 [.ref (E (0, 0, 0)), .int n]) [] h (xEd (eGrow n) h (fun o u => o = .returned (some (.int (cgi S 0 N).2)) ∧ Rep E dc (cgi S 0 N).1 K u ∧ xSz h u)) := by
  have go : ∀ b : Bool, decide (0 ≤ n ∧ n ≤ 1000) = b → xV D N0 mN_grow (d + 8) 16 (xargs 4 [.ref (E (0, 0, 0)), .int n]) [.int (xB b)] h (xEd (eGrow n) h (fun o u => o = .returned (some (.int (cgi S 0 N).2)) ∧ Rep E dc (cgi S 0 N).1 K u ∧ xSz h u)) := by
    intro b hb
    refine xV.ckA rfl g_mN_grow_62 (Nat.le_of_ble_eq_true rfl) rfl hr (fun t => xEd_some (by unfold eGrow; rw [if_neg (of_decide_eq_false (hb.trans t))])) (fun t => ?_)
    have t1 := of_decide_eq_true (hb.trans t)
    have e : eGrow n = none := by unfold eGrow; rw [if_pos t1]
    obtain ⟨rfl, hN⟩ := hn t1
    rw [e]
    refine xV.step rfl ?_
    refine xV.step rfl ?_
    refine xV.step rfl ?_
    refine xV.step rfl ?_
    exact c_N_grow_loop hN N 0 S h 0 (by omega) R hO hC
  refine xV.step rfl ?_
  refine xV.br rfl (fun h1 => ?_) (fun h1 => ?_)
  · refine xV.step rfl ?_
    exact go false (decide_eq_false (fun t => by have := t.1; simp only [Int32.lt_iff_toInt_lt, Int32.le_iff_toInt_le] at *; omega))
  refine xV.step rfl ?_
  refine xV.step rfl ?_
  refine xV.br rfl (fun h2 => ?_) (fun h2 => ?_)
  · refine xV.step rfl ?_
    exact go false (decide_eq_false (fun t => by have := t.2; simp only [Int32.lt_iff_toInt_lt, Int32.le_iff_toInt_le] at *; omega))
  · refine xV.step rfl ?_
    refine xV.step rfl ?_
    exact go true (decide_eq_true ⟨by simp only [Int32.lt_iff_toInt_lt, Int32.le_iff_toInt_le] at *; omega, by simp only [Int32.lt_iff_toInt_lt, Int32.le_iff_toInt_le] at *; omega⟩)
end X62
