/- Part 99n: the law's loop, cases 0 to 6, printed by wip/whole/tools/gen_law.py -/
section X99n
variable {D : va_G} {N0 d : Nat} {E : RO → Nat} {m out sc n : Nat} {S : CS} {A : MS} {g : Nat → Int64} {K0 : Nat → Option XC} {h : XH} {f : Nat → Int32} {i : Int32} {l5 l6 l7 : Option Value} {Q : Outcome → XH → Prop}
theorem w_open (hO : lO m out (D.1 1000)) (R : Rep E (D.1 1000) S (lKm m A out g K0) h) (C : Cpl S A) (hr : h.2.1 + 7 ≤ xCmax ∧ h.2.2.1 + 216 ≤ xSmax) (hK : ∀ A g, lKm m A out g K0 sc = some (.inl (true, .int, n, .inl f))) (hin1 : vp_in (i + 1) n) (hin2 : vp_in (i + 2) n) (hin3 : vp_in (i + 3) n) (hin4 : vp_in (i + 4) n) (hin5 : vp_in (i + 5) n) (hin6 : vp_in (i + 6) n) (kk : ∀ (E' : RO → Nat) (S' : CS) (A' : MS) (g' : Nat → Int64) (u : XH) (l5 l6 l7 : Option Value), E' (0, 0, 0) = E (0, 0, 0) → Rep E' (D.1 1000) S' (lKm m A' out g' K0) u → Cpl S' A' → xMk h u 7 216 → xV D N0 mW0 (d + 21) 2126 [some (.ref sc), some (.ref (E (0, 0, 0))), some (.ref m), some (.ref out), some (.int i), l5, l6, l7] [] u Q) : xV D N0 mW0 (d + 21) 164 [some (.ref sc), some (.ref (E (0, 0, 0))), some (.ref m), some (.ref out), some (.int i), l5, l6, l7] [] h Q := by
  have hs := (R.2.2.1 sc _ (hK A g)).1
  obtain ⟨RX, hcls, hmod⟩ := o_open (D := D) (N0 := N0) (d := d) (f := f (i + 1).toNatClampNeg) (s := f (i + 2).toNatClampNeg) (a := f (i + 3).toNatClampNeg) (b := f (i + 4).toNatClampNeg) hO R C hr
  refine xV.step rfl ?_
  refine xV.step rfl ?_
  refine xV.step rfl ?_
  refine xV.step rfl ?_
  refine xV.step rfl ?_
  refine xV.iald rfl hs (hin1) ?_
  refine xV.step rfl ?_
  refine xV.step rfl ?_
  refine xV.step rfl ?_
  refine xV.step rfl ?_
  refine xV.iald rfl hs (hin2) ?_
  refine xV.step rfl ?_
  refine xV.step rfl ?_
  refine xV.step rfl ?_
  refine xV.step rfl ?_
  refine xV.iald rfl hs (hin3) ?_
  refine xV.step rfl ?_
  refine xV.step rfl ?_
  refine xV.step rfl ?_
  refine xV.step rfl ?_
  refine xV.iald rfl hs (hin4) ?_
  refine xV.step rfl ?_
  refine xV.callS (n := 6) rfl rfl g_mW_103 mL_open_ok (Nat.le_of_ble_eq_true rfl) (Nat.le_of_ble_eq_true rfl) hcls (fun v u hz => ?_) (fun a u hz => by obtain ⟨k, _, _, _, e, _⟩ := hz; cases e)
  obtain ⟨k, E1, S1, g1, e1, e2, R1, hM1, hR⟩ := hz
  cases e1
  have hs1 := (R1.2.2.1 sc _ (hK A g1)).1
  have hm1 := hmod u k S1 (g1 0) hR
  rw [R1.hmE] at hm1
  refine xV.step rfl ?_
  show xV D N0 mW0 (d + 21) 195 [some (.ref sc), some (.ref (E (0, 0, 0))), some (.ref m), some (.ref out), some (.int i), some (.int k), l6, l7] _ _ _
  refine xV.step rfl ?_
  refine xV.step rfl ?_
  refine xV.step rfl ?_
  refine xV.step rfl ?_
  refine xV.step rfl ?_
  refine xV.iald rfl hs1 (hin1) ?_
  refine xV.step rfl ?_
  refine xV.step rfl ?_
  refine xV.step rfl ?_
  refine xV.step rfl ?_
  refine xV.iald rfl hs1 (hin2) ?_
  refine xV.step rfl ?_
  refine xV.step rfl ?_
  refine xV.step rfl ?_
  refine xV.step rfl ?_
  refine xV.iald rfl hs1 (hin3) ?_
  refine xV.step rfl ?_
  refine xV.step rfl ?_
  refine xV.step rfl ?_
  refine xV.step rfl ?_
  refine xV.iald rfl hs1 (hin4) ?_
  refine xV.callV (n := 4) (q := ("ChannelNetModel", xTM, 48)) rfl rfl (R1.mget) rfl g_mW_108 mM_open_ok (Nat.le_of_ble_eq_true rfl) (Nat.le_of_ble_eq_true rfl) hm1 (fun v w hz => ?_) (fun a w hz => by obtain ⟨_, _, e, _⟩ := hz; cases e)
  obtain ⟨v2, A1, e3, rfl, h0, C1, hw, hy⟩ := hz
  cases e3
  obtain ⟨y1, xx, rfl, -⟩ := hw
  refine xV.step rfl ?_
  show xV D N0 mW0 (d + 21) 225 [some (.ref sc), some (.ref (E (0, 0, 0))), some (.ref m), some (.ref out), some (.int i), some (.int k), some (.int xx), l7] _ _ _
  refine xV.step rfl ?_
  refine xV.cM (n := 0) rfl rfl g_mW_109 mM_thrown_ok (Nat.le_of_ble_eq_true rfl) (Nat.le_of_ble_eq_true rfl) c_M_thrown ?_
  refine xV.step rfl ?_
  refine xV.br rfl (fun h1 => ?_) (fun h1 => absurd h0 h1)
  refine xV.step rfl ?_
  refine xV.br rfl (fun h2 => ?_) (fun h2 => ?_)
  rotate_left
  · refine xV.step rfl ?_
    exact kk E1 S1 A1 g1 _ _ _ _ e2 (R1.mod hO A1) C1 hM1
  have hy1 := hy h2
  obtain ⟨x2, e5, e6⟩ := hy1
  cases e5
  refine xV.step rfl ?_
  refine xV.step rfl ?_
  refine xV.ij (j := 0) rfl ((R1.mod hO A1).outg hO) rfl (by omega) (by omega) ?_
  refine xV.step rfl ?_
  refine xV.step rfl ?_
  refine xV.step rfl ?_
  refine xV.br rfl (fun h3 => ?_) (fun h3 => absurd ((lg_cmp_eq0 _ _).mpr e6) h3)
  refine xV.step rfl ?_
  exact kk E1 S1 A1 g1 _ _ _ _ e2 (R1.mod hO A1) C1 hM1
theorem w_fees (hO : lO m out (D.1 1000)) (R : Rep E (D.1 1000) S (lKm m A out g K0) h) (C : Cpl S A) (hr : h.2.1 + 7 ≤ xCmax ∧ h.2.2.1 + 216 ≤ xSmax) (hK : ∀ A g, lKm m A out g K0 sc = some (.inl (true, .int, n, .inl f))) (hin1 : vp_in (i + 1) n) (hin2 : vp_in (i + 2) n) (hin3 : vp_in (i + 3) n) (hin4 : vp_in (i + 4) n) (hin5 : vp_in (i + 5) n) (hin6 : vp_in (i + 6) n) (kk : ∀ (E' : RO → Nat) (S' : CS) (A' : MS) (g' : Nat → Int64) (u : XH) (l5 l6 l7 : Option Value), E' (0, 0, 0) = E (0, 0, 0) → Rep E' (D.1 1000) S' (lKm m A' out g' K0) u → Cpl S' A' → xMk h u 7 216 → xV D N0 mW1 (d + 21) 2126 [some (.ref sc), some (.ref (E (0, 0, 0))), some (.ref m), some (.ref out), some (.int i), l5, l6, l7] [] u Q) : xV D N0 mW1 (d + 21) 256 [some (.ref sc), some (.ref (E (0, 0, 0))), some (.ref m), some (.ref out), some (.int i), l5, l6, l7] [] h Q := by
  have hs := (R.2.2.1 sc _ (hK A g)).1
  obtain ⟨RX, hcls, hmod⟩ := o_fees (D := D) (N0 := N0) (d := d) (n := f (i + 1).toNatClampNeg) (b := f (i + 2).toNatClampNeg) (q := f (i + 3).toNatClampNeg) (e := f (i + 4).toNatClampNeg) hO R C hr
  refine xV.step rfl ?_
  refine xV.step rfl ?_
  refine xV.step rfl ?_
  refine xV.step rfl ?_
  refine xV.step rfl ?_
  refine xV.iald rfl hs (hin1) ?_
  refine xV.step rfl ?_
  refine xV.step rfl ?_
  refine xV.step rfl ?_
  refine xV.step rfl ?_
  refine xV.iald rfl hs (hin2) ?_
  refine xV.step rfl ?_
  refine xV.step rfl ?_
  refine xV.step rfl ?_
  refine xV.step rfl ?_
  refine xV.iald rfl hs (hin3) ?_
  refine xV.step rfl ?_
  refine xV.step rfl ?_
  refine xV.step rfl ?_
  refine xV.step rfl ?_
  refine xV.iald rfl hs (hin4) ?_
  refine xV.callS (n := 5) rfl rfl g_mW_113 mL_fees_ok (Nat.le_of_ble_eq_true rfl) (Nat.le_of_ble_eq_true rfl) hcls (fun v u hz => ?_) (fun a u hz => by obtain ⟨k, _, _, _, e, _⟩ := hz; cases e)
  obtain ⟨k, E1, S1, g1, e1, e2, R1, hM1, hR⟩ := hz
  cases e1
  have hs1 := (R1.2.2.1 sc _ (hK A g1)).1
  have hm1 := hmod u k S1 (g1 0) hR
  rw [R1.hmE] at hm1
  refine xV.step rfl ?_
  show xV D N0 mW1 (d + 21) 286 [some (.ref sc), some (.ref (E (0, 0, 0))), some (.ref m), some (.ref out), some (.int i), some (.int k), l6, l7] _ _ _
  refine xV.step rfl ?_
  refine xV.step rfl ?_
  refine xV.step rfl ?_
  refine xV.step rfl ?_
  refine xV.step rfl ?_
  refine xV.iald rfl hs1 (hin1) ?_
  refine xV.step rfl ?_
  refine xV.step rfl ?_
  refine xV.step rfl ?_
  refine xV.step rfl ?_
  refine xV.iald rfl hs1 (hin2) ?_
  refine xV.step rfl ?_
  refine xV.step rfl ?_
  refine xV.step rfl ?_
  refine xV.step rfl ?_
  refine xV.iald rfl hs1 (hin3) ?_
  refine xV.step rfl ?_
  refine xV.step rfl ?_
  refine xV.step rfl ?_
  refine xV.step rfl ?_
  refine xV.iald rfl hs1 (hin4) ?_
  refine xV.callV (n := 4) (q := ("ChannelNetModel", xTM, 48)) rfl rfl (R1.mget) rfl g_mW_116 mM_fees_ok (Nat.le_of_ble_eq_true rfl) (Nat.le_of_ble_eq_true rfl) hm1 (fun v w hz => ?_) (fun a w hz => by obtain ⟨_, _, e, _⟩ := hz; cases e)
  obtain ⟨v2, A1, e3, rfl, h0, C1, hw, hy⟩ := hz
  cases e3
  obtain ⟨y1, rfl⟩ := hw
  refine xV.step rfl ?_
  refine xV.cM (n := 0) rfl rfl g_mW_109 mM_thrown_ok (Nat.le_of_ble_eq_true rfl) (Nat.le_of_ble_eq_true rfl) c_M_thrown ?_
  refine xV.step rfl ?_
  refine xV.br rfl (fun h1 => ?_) (fun h1 => absurd h0 h1)
  refine xV.step rfl ?_
  exact kk E1 S1 A1 g1 _ _ _ _ e2 (R1.mod hO A1) C1 hM1
theorem w_tell (hO : lO m out (D.1 1000)) (R : Rep E (D.1 1000) S (lKm m A out g K0) h) (C : Cpl S A) (hr : h.2.1 + 7 ≤ xCmax ∧ h.2.2.1 + 216 ≤ xSmax) (hK : ∀ A g, lKm m A out g K0 sc = some (.inl (true, .int, n, .inl f))) (hin1 : vp_in (i + 1) n) (hin2 : vp_in (i + 2) n) (hin3 : vp_in (i + 3) n) (hin4 : vp_in (i + 4) n) (hin5 : vp_in (i + 5) n) (hin6 : vp_in (i + 6) n) (kk : ∀ (E' : RO → Nat) (S' : CS) (A' : MS) (g' : Nat → Int64) (u : XH) (l5 l6 l7 : Option Value), E' (0, 0, 0) = E (0, 0, 0) → Rep E' (D.1 1000) S' (lKm m A' out g' K0) u → Cpl S' A' → xMk h u 7 216 → xV D N0 mW2 (d + 21) 2126 [some (.ref sc), some (.ref (E (0, 0, 0))), some (.ref m), some (.ref out), some (.int i), l5, l6, l7] [] u Q) : xV D N0 mW2 (d + 21) 328 [some (.ref sc), some (.ref (E (0, 0, 0))), some (.ref m), some (.ref out), some (.int i), l5, l6, l7] [] h Q := by
  have hs := (R.2.2.1 sc _ (hK A g)).1
  obtain ⟨RX, hcls, hmod⟩ := o_tell (D := D) (N0 := N0) (d := d) (n := f (i + 1).toNatClampNeg) (s := ((f (i + 2).toNatClampNeg).toInt64 <<< ((32 : Int32).toInt64 &&& 63)) ||| ((f (i + 3).toNatClampNeg).toInt64 &&& 4294967295)) hO R C hr
  refine xV.step rfl ?_
  refine xV.step rfl ?_
  refine xV.step rfl ?_
  refine xV.step rfl ?_
  refine xV.step rfl ?_
  refine xV.iald rfl hs (hin1) ?_
  refine xV.step rfl ?_
  refine xV.step rfl ?_
  refine xV.step rfl ?_
  refine xV.step rfl ?_
  refine xV.iald rfl hs (hin2) ?_
  refine xV.step rfl ?_
  refine xV.step rfl ?_
  refine xV.step rfl ?_
  refine xV.step rfl ?_
  refine xV.step rfl ?_
  refine xV.step rfl ?_
  refine xV.step rfl ?_
  refine xV.iald rfl hs (hin3) ?_
  refine xV.step rfl ?_
  refine xV.step rfl ?_
  refine xV.step rfl ?_
  refine xV.step rfl ?_
  refine xV.step rfl ?_
  refine xV.callS (n := 4) rfl rfl g_mW_119 mL_tell_ok (Nat.le_of_ble_eq_true rfl) (Nat.le_of_ble_eq_true rfl) hcls (fun v u hz => ?_) (fun a u hz => by obtain ⟨k, _, _, _, e, _⟩ := hz; cases e)
  obtain ⟨k, E1, S1, g1, e1, e2, R1, hM1, hR⟩ := hz
  cases e1
  have hs1 := (R1.2.2.1 sc _ (hK A g1)).1
  have hm1 := hmod u k S1 (g1 0) hR
  rw [R1.hmE] at hm1
  refine xV.step rfl ?_
  show xV D N0 mW2 (d + 21) 363 [some (.ref sc), some (.ref (E (0, 0, 0))), some (.ref m), some (.ref out), some (.int i), some (.int k), l6, l7] _ _ _
  refine xV.step rfl ?_
  refine xV.step rfl ?_
  refine xV.step rfl ?_
  refine xV.step rfl ?_
  refine xV.step rfl ?_
  refine xV.iald rfl hs1 (hin1) ?_
  refine xV.step rfl ?_
  refine xV.step rfl ?_
  refine xV.step rfl ?_
  refine xV.step rfl ?_
  refine xV.iald rfl hs1 (hin2) ?_
  refine xV.step rfl ?_
  refine xV.step rfl ?_
  refine xV.step rfl ?_
  refine xV.step rfl ?_
  refine xV.step rfl ?_
  refine xV.step rfl ?_
  refine xV.step rfl ?_
  refine xV.iald rfl hs1 (hin3) ?_
  refine xV.step rfl ?_
  refine xV.step rfl ?_
  refine xV.step rfl ?_
  refine xV.step rfl ?_
  refine xV.callV (n := 2) (q := ("ChannelNetModel", xTM, 48)) rfl rfl (R1.mget) rfl g_mW_122 mM_tell_ok (Nat.le_of_ble_eq_true rfl) (Nat.le_of_ble_eq_true rfl) hm1 (fun v w hz => ?_) (fun a w hz => by obtain ⟨_, _, e, _⟩ := hz; cases e)
  obtain ⟨v2, A1, e3, rfl, h0, C1, hw, hy⟩ := hz
  cases e3
  obtain ⟨xx, rfl⟩ := hw
  refine xV.step rfl ?_
  show xV D N0 mW2 (d + 21) 397 [some (.ref sc), some (.ref (E (0, 0, 0))), some (.ref m), some (.ref out), some (.int i), some (.int k), some (.long xx), none] _ _ _
  refine xV.step rfl ?_
  refine xV.cM (n := 0) rfl rfl g_mW_109 mM_thrown_ok (Nat.le_of_ble_eq_true rfl) (Nat.le_of_ble_eq_true rfl) c_M_thrown ?_
  refine xV.step rfl ?_
  refine xV.br rfl (fun h1 => ?_) (fun h1 => absurd h0 h1)
  refine xV.step rfl ?_
  refine xV.br rfl (fun h2 => ?_) (fun h2 => ?_)
  rotate_left
  · refine xV.step rfl ?_
    exact kk E1 S1 A1 g1 _ _ _ _ e2 (R1.mod hO A1) C1 hM1
  have hy1 := hy h2
  cases hy1
  refine xV.step rfl ?_
  refine xV.step rfl ?_
  refine xV.ij (j := 0) rfl ((R1.mod hO A1).outg hO) rfl (by omega) (by omega) ?_
  refine xV.step rfl ?_
  refine xV.step rfl ?_
  refine xV.br rfl (fun h3 => ?_) (fun h3 => absurd ((lg_cmp_eq0 _ _).mpr rfl) h3)
  refine xV.step rfl ?_
  exact kk E1 S1 A1 g1 _ _ _ _ e2 (R1.mod hO A1) C1 hM1
theorem w_lock (hO : lO m out (D.1 1000)) (R : Rep E (D.1 1000) S (lKm m A out g K0) h) (C : Cpl S A) (hr : h.2.1 + 7 ≤ xCmax ∧ h.2.2.1 + 216 ≤ xSmax) (hK : ∀ A g, lKm m A out g K0 sc = some (.inl (true, .int, n, .inl f))) (hin1 : vp_in (i + 1) n) (hin2 : vp_in (i + 2) n) (hin3 : vp_in (i + 3) n) (hin4 : vp_in (i + 4) n) (hin5 : vp_in (i + 5) n) (hin6 : vp_in (i + 6) n) (kk : ∀ (E' : RO → Nat) (S' : CS) (A' : MS) (g' : Nat → Int64) (u : XH) (l5 l6 l7 : Option Value), E' (0, 0, 0) = E (0, 0, 0) → Rep E' (D.1 1000) S' (lKm m A' out g' K0) u → Cpl S' A' → xMk h u 7 216 → xV D N0 mW3 (d + 21) 2126 [some (.ref sc), some (.ref (E (0, 0, 0))), some (.ref m), some (.ref out), some (.int i), l5, l6, l7] [] u Q) : xV D N0 mW3 (d + 21) 427 [some (.ref sc), some (.ref (E (0, 0, 0))), some (.ref m), some (.ref out), some (.int i), l5, l6, l7] [] h Q := by
  have hs := (R.2.2.1 sc _ (hK A g)).1
  refine xV.step rfl ?_
  refine xV.step rfl ?_
  refine xV.step rfl ?_
  refine xV.step rfl ?_
  refine xV.step rfl ?_
  refine xV.iald rfl hs hin1 ?_
  refine xV.step rfl ?_
  refine xV.step rfl ?_
  refine xV.step rfl ?_
  refine xV.step rfl ?_
  refine xV.step rfl ?_
  refine xV.step rfl ?_
  refine xV.step rfl ?_
  refine xV.iald rfl hs hin2 ?_
  refine xV.step rfl ?_
  refine xV.step rfl ?_
  refine xV.step rfl ?_
  refine xV.step rfl ?_
  refine xV.cV (n := 1) (h' := h) rfl rfl R.net rfl g_mW_123 mN_lock_ok (Nat.le_of_ble_eq_true rfl) (Nat.le_of_ble_eq_true rfl) (c_N_lock (d := d + 19)) ?_
  refine xV.step rfl ?_
  refine xV.step rfl ?_
  refine xV.step rfl ?_
  refine xV.step rfl ?_
  refine xV.step rfl ?_
  refine xV.iald rfl hs hin1 ?_
  refine xV.step rfl ?_
  refine xV.step rfl ?_
  refine xV.step rfl ?_
  refine xV.step rfl ?_
  refine xV.step rfl ?_
  refine xV.step rfl ?_
  refine xV.step rfl ?_
  refine xV.iald rfl hs hin2 ?_
  refine xV.step rfl ?_
  refine xV.step rfl ?_
  refine xV.step rfl ?_
  refine xV.step rfl ?_
  have hm1 := c_M_lock (D := D) (N0 := N0) (d := d + 19) (m := m) (A := A) (h := h) (s := ((f (i + 1).toNatClampNeg).toInt64 <<< ((32 : Int32).toInt64 &&& 63)) ||| ((f (i + 2).toNatClampNeg).toInt64 &&& 4294967295))
  rw [R.hmE] at hm1
  refine xV.cV (n := 1) (q := ("ChannelNetModel", xTM, 48)) rfl rfl R.mget rfl g_mW_127 mM_lock_ok (Nat.le_of_ble_eq_true rfl) (Nat.le_of_ble_eq_true rfl) hm1 ?_
  refine xV.step rfl ?_
  refine xV.br rfl (fun h3 => ?_) (fun h3 => absurd ((lg_cmp_eq0 _ _).mpr rfl) h3)
  exact kk E S (mF A 0 0) g _ _ _ _ rfl (R.mod hO (mF A 0 0)) (C.F0 0) ⟨Nat.le_add_right _ _, Nat.le_add_right _ _⟩
theorem w_knows (hO : lO m out (D.1 1000)) (R : Rep E (D.1 1000) S (lKm m A out g K0) h) (C : Cpl S A) (hr : h.2.1 + 7 ≤ xCmax ∧ h.2.2.1 + 216 ≤ xSmax) (hK : ∀ A g, lKm m A out g K0 sc = some (.inl (true, .int, n, .inl f))) (hin1 : vp_in (i + 1) n) (hin2 : vp_in (i + 2) n) (hin3 : vp_in (i + 3) n) (hin4 : vp_in (i + 4) n) (hin5 : vp_in (i + 5) n) (hin6 : vp_in (i + 6) n) (kk : ∀ (E' : RO → Nat) (S' : CS) (A' : MS) (g' : Nat → Int64) (u : XH) (l5 l6 l7 : Option Value), E' (0, 0, 0) = E (0, 0, 0) → Rep E' (D.1 1000) S' (lKm m A' out g' K0) u → Cpl S' A' → xMk h u 7 216 → xV D N0 mW4 (d + 21) 2126 [some (.ref sc), some (.ref (E (0, 0, 0))), some (.ref m), some (.ref out), some (.int i), l5, l6, l7] [] u Q) : xV D N0 mW4 (d + 21) 485 [some (.ref sc), some (.ref (E (0, 0, 0))), some (.ref m), some (.ref out), some (.int i), l5, l6, l7] [] h Q := by
  have hs := (R.2.2.1 sc _ (hK A g)).1
  obtain ⟨RX, hcls, hmod⟩ := o_knows (D := D) (N0 := N0) (d := d) (n := f (i + 1).toNatClampNeg) (k := ((f (i + 2).toNatClampNeg).toInt64 <<< ((32 : Int32).toInt64 &&& 63)) ||| ((f (i + 3).toNatClampNeg).toInt64 &&& 4294967295)) hO R C hr
  refine xV.step rfl ?_
  refine xV.step rfl ?_
  refine xV.step rfl ?_
  refine xV.step rfl ?_
  refine xV.step rfl ?_
  refine xV.iald rfl hs (hin1) ?_
  refine xV.step rfl ?_
  refine xV.step rfl ?_
  refine xV.step rfl ?_
  refine xV.step rfl ?_
  refine xV.iald rfl hs (hin2) ?_
  refine xV.step rfl ?_
  refine xV.step rfl ?_
  refine xV.step rfl ?_
  refine xV.step rfl ?_
  refine xV.step rfl ?_
  refine xV.step rfl ?_
  refine xV.step rfl ?_
  refine xV.iald rfl hs (hin3) ?_
  refine xV.step rfl ?_
  refine xV.step rfl ?_
  refine xV.step rfl ?_
  refine xV.step rfl ?_
  refine xV.step rfl ?_
  refine xV.callS (n := 4) rfl rfl g_mW_128 mL_knows_ok (Nat.le_of_ble_eq_true rfl) (Nat.le_of_ble_eq_true rfl) hcls (fun v u hz => ?_) (fun a u hz => by obtain ⟨k, _, _, _, e, _⟩ := hz; cases e)
  obtain ⟨k, E1, S1, g1, e1, e2, R1, hM1, hR⟩ := hz
  cases e1
  have hs1 := (R1.2.2.1 sc _ (hK A g1)).1
  have hm1 := hmod u k S1 (g1 0) hR
  rw [R1.hmE] at hm1
  refine xV.step rfl ?_
  show xV D N0 mW4 (d + 21) 520 [some (.ref sc), some (.ref (E (0, 0, 0))), some (.ref m), some (.ref out), some (.int i), some (.int k), l6, l7] _ _ _
  refine xV.step rfl ?_
  refine xV.step rfl ?_
  refine xV.step rfl ?_
  refine xV.step rfl ?_
  refine xV.step rfl ?_
  refine xV.iald rfl hs1 (hin1) ?_
  refine xV.step rfl ?_
  refine xV.step rfl ?_
  refine xV.step rfl ?_
  refine xV.step rfl ?_
  refine xV.iald rfl hs1 (hin2) ?_
  refine xV.step rfl ?_
  refine xV.step rfl ?_
  refine xV.step rfl ?_
  refine xV.step rfl ?_
  refine xV.step rfl ?_
  refine xV.step rfl ?_
  refine xV.step rfl ?_
  refine xV.iald rfl hs1 (hin3) ?_
  refine xV.step rfl ?_
  refine xV.step rfl ?_
  refine xV.step rfl ?_
  refine xV.step rfl ?_
  refine xV.callV (n := 2) (q := ("ChannelNetModel", xTM, 48)) rfl rfl (R1.mget) rfl g_mW_130 mM_knows_ok (Nat.le_of_ble_eq_true rfl) (Nat.le_of_ble_eq_true rfl) hm1 (fun v w hz => ?_) (fun a w hz => by obtain ⟨_, _, e, _⟩ := hz; cases e)
  obtain ⟨v2, A1, e3, rfl, h0, C1, hw, hy⟩ := hz
  cases e3
  obtain ⟨y1, bb, rfl, -⟩ := hw
  refine xV.step rfl ?_
  show xV D N0 mW4 (d + 21) 554 [some (.ref sc), some (.ref (E (0, 0, 0))), some (.ref m), some (.ref out), some (.int i), some (.int k), some (.int (xB bb)), l7] _ _ _
  refine xV.step rfl ?_
  refine xV.cM (n := 0) rfl rfl g_mW_109 mM_thrown_ok (Nat.le_of_ble_eq_true rfl) (Nat.le_of_ble_eq_true rfl) c_M_thrown ?_
  refine xV.step rfl ?_
  refine xV.br rfl (fun h1 => ?_) (fun h1 => absurd h0 h1)
  refine xV.step rfl ?_
  refine xV.br rfl (fun h2 => ?_) (fun h2 => ?_)
  rotate_left
  · refine xV.step rfl ?_
    exact kk E1 S1 A1 g1 _ _ _ _ e2 (R1.mod hO A1) C1 hM1
  have hy1 := hy h2
  obtain ⟨b2, e5, e6⟩ := hy1
  injection e5 with e5
  injection e5 with e5
  rw [← e5] at e6
  cases bb with
  | false =>
    refine xV.step rfl ?_
    refine xV.step rfl ?_
    refine xV.ij (j := 0) rfl ((R1.mod hO A1).outg hO) rfl (by omega) (by omega) ?_
    refine xV.step rfl ?_
    refine xV.br rfl (fun h9 => ?_) (fun h9 => absurd rfl h9)
    refine xV.step rfl ?_
    refine xV.step rfl ?_
    refine xV.br rfl (fun h3 => ?_) (fun h3 => absurd ((lg_cmp_eq0 _ _).mpr e6) h3)
    refine xV.step rfl ?_
    exact kk E1 S1 A1 g1 _ _ _ _ e2 (R1.mod hO A1) C1 hM1
  | true =>
    refine xV.step rfl ?_
    refine xV.step rfl ?_
    refine xV.ij (j := 0) rfl ((R1.mod hO A1).outg hO) rfl (by omega) (by omega) ?_
    refine xV.step rfl ?_
    refine xV.br rfl (fun h9 => absurd h9 (by decide)) (fun h9 => ?_)
    refine xV.step rfl ?_
    refine xV.step rfl ?_
    refine xV.step rfl ?_
    refine xV.br rfl (fun h3 => ?_) (fun h3 => absurd ((lg_cmp_eq0 _ _).mpr e6) h3)
    refine xV.step rfl ?_
    exact kk E1 S1 A1 g1 _ _ _ _ e2 (R1.mod hO A1) C1 hM1
theorem w_promise (hO : lO m out (D.1 1000)) (R : Rep E (D.1 1000) S (lKm m A out g K0) h) (C : Cpl S A) (hr : h.2.1 + 7 ≤ xCmax ∧ h.2.2.1 + 216 ≤ xSmax) (hK : ∀ A g, lKm m A out g K0 sc = some (.inl (true, .int, n, .inl f))) (hin1 : vp_in (i + 1) n) (hin2 : vp_in (i + 2) n) (hin3 : vp_in (i + 3) n) (hin4 : vp_in (i + 4) n) (hin5 : vp_in (i + 5) n) (hin6 : vp_in (i + 6) n) (kk : ∀ (E' : RO → Nat) (S' : CS) (A' : MS) (g' : Nat → Int64) (u : XH) (l5 l6 l7 : Option Value), E' (0, 0, 0) = E (0, 0, 0) → Rep E' (D.1 1000) S' (lKm m A' out g' K0) u → Cpl S' A' → xMk h u 7 216 → xV D N0 mW5 (d + 21) 2126 [some (.ref sc), some (.ref (E (0, 0, 0))), some (.ref m), some (.ref out), some (.int i), l5, l6, l7] [] u Q) : xV D N0 mW5 (d + 21) 592 [some (.ref sc), some (.ref (E (0, 0, 0))), some (.ref m), some (.ref out), some (.int i), l5, l6, l7] [] h Q := by
  have hs := (R.2.2.1 sc _ (hK A g)).1
  obtain ⟨RX, hcls, hmod⟩ := o_promise (D := D) (N0 := N0) (d := d) (c := f (i + 1).toNatClampNeg) (n := f (i + 2).toNatClampNeg) (a := f (i + 3).toNatClampNeg) (lo := ((f (i + 4).toNatClampNeg).toInt64 <<< ((32 : Int32).toInt64 &&& 63)) ||| ((f (i + 5).toNatClampNeg).toInt64 &&& 4294967295)) (e := f (i + 6).toNatClampNeg) hO R C hr
  refine xV.step rfl ?_
  refine xV.step rfl ?_
  refine xV.step rfl ?_
  refine xV.step rfl ?_
  refine xV.step rfl ?_
  refine xV.iald rfl hs (hin1) ?_
  refine xV.step rfl ?_
  refine xV.step rfl ?_
  refine xV.step rfl ?_
  refine xV.step rfl ?_
  refine xV.iald rfl hs (hin2) ?_
  refine xV.step rfl ?_
  refine xV.step rfl ?_
  refine xV.step rfl ?_
  refine xV.step rfl ?_
  refine xV.iald rfl hs (hin3) ?_
  refine xV.step rfl ?_
  refine xV.step rfl ?_
  refine xV.step rfl ?_
  refine xV.step rfl ?_
  refine xV.iald rfl hs (hin4) ?_
  refine xV.step rfl ?_
  refine xV.step rfl ?_
  refine xV.step rfl ?_
  refine xV.step rfl ?_
  refine xV.step rfl ?_
  refine xV.step rfl ?_
  refine xV.step rfl ?_
  refine xV.iald rfl hs (hin5) ?_
  refine xV.step rfl ?_
  refine xV.step rfl ?_
  refine xV.step rfl ?_
  refine xV.step rfl ?_
  refine xV.step rfl ?_
  refine xV.step rfl ?_
  refine xV.step rfl ?_
  refine xV.step rfl ?_
  refine xV.iald rfl hs (hin6) ?_
  refine xV.step rfl ?_
  refine xV.callS (n := 7) rfl rfl g_mW_131 mL_promise_ok (Nat.le_of_ble_eq_true rfl) (Nat.le_of_ble_eq_true rfl) hcls (fun v u hz => ?_) (fun a u hz => by obtain ⟨k, _, _, _, e, _⟩ := hz; cases e)
  obtain ⟨k, E1, S1, g1, e1, e2, R1, hM1, hR⟩ := hz
  cases e1
  have hs1 := (R1.2.2.1 sc _ (hK A g1)).1
  have hm1 := hmod u k S1 (g1 0) hR
  rw [R1.hmE] at hm1
  refine xV.step rfl ?_
  show xV D N0 mW5 (d + 21) 646 [some (.ref sc), some (.ref (E (0, 0, 0))), some (.ref m), some (.ref out), some (.int i), some (.int k), l6, l7] _ _ _
  refine xV.step rfl ?_
  refine xV.step rfl ?_
  refine xV.step rfl ?_
  refine xV.step rfl ?_
  refine xV.step rfl ?_
  refine xV.iald rfl hs1 (hin1) ?_
  refine xV.step rfl ?_
  refine xV.step rfl ?_
  refine xV.step rfl ?_
  refine xV.step rfl ?_
  refine xV.iald rfl hs1 (hin2) ?_
  refine xV.step rfl ?_
  refine xV.step rfl ?_
  refine xV.step rfl ?_
  refine xV.step rfl ?_
  refine xV.iald rfl hs1 (hin3) ?_
  refine xV.step rfl ?_
  refine xV.step rfl ?_
  refine xV.step rfl ?_
  refine xV.step rfl ?_
  refine xV.iald rfl hs1 (hin4) ?_
  refine xV.step rfl ?_
  refine xV.step rfl ?_
  refine xV.step rfl ?_
  refine xV.step rfl ?_
  refine xV.step rfl ?_
  refine xV.step rfl ?_
  refine xV.step rfl ?_
  refine xV.iald rfl hs1 (hin5) ?_
  refine xV.step rfl ?_
  refine xV.step rfl ?_
  refine xV.step rfl ?_
  refine xV.step rfl ?_
  refine xV.step rfl ?_
  refine xV.step rfl ?_
  refine xV.step rfl ?_
  refine xV.step rfl ?_
  refine xV.iald rfl hs1 (hin6) ?_
  refine xV.callV (n := 5) (q := ("ChannelNetModel", xTM, 48)) rfl rfl (R1.mget) rfl g_mW_134 mM_promise_ok (Nat.le_of_ble_eq_true rfl) (Nat.le_of_ble_eq_true rfl) hm1 (fun v w hz => ?_) (fun a w hz => by obtain ⟨_, _, e, _⟩ := hz; cases e)
  obtain ⟨v2, A1, e3, rfl, h0, C1, hw, hy⟩ := hz
  cases e3
  obtain ⟨y1, xx, rfl, -⟩ := hw
  refine xV.step rfl ?_
  show xV D N0 mW5 (d + 21) 699 [some (.ref sc), some (.ref (E (0, 0, 0))), some (.ref m), some (.ref out), some (.int i), some (.int k), some (.int xx), l7] _ _ _
  refine xV.step rfl ?_
  refine xV.cM (n := 0) rfl rfl g_mW_109 mM_thrown_ok (Nat.le_of_ble_eq_true rfl) (Nat.le_of_ble_eq_true rfl) c_M_thrown ?_
  refine xV.step rfl ?_
  refine xV.br rfl (fun h1 => ?_) (fun h1 => absurd h0 h1)
  refine xV.step rfl ?_
  refine xV.br rfl (fun h2 => ?_) (fun h2 => ?_)
  rotate_left
  · refine xV.step rfl ?_
    exact kk E1 S1 A1 g1 _ _ _ _ e2 (R1.mod hO A1) C1 hM1
  have hy1 := hy h2
  obtain ⟨x2, e5, e6⟩ := hy1
  cases e5
  refine xV.step rfl ?_
  refine xV.step rfl ?_
  refine xV.ij (j := 0) rfl ((R1.mod hO A1).outg hO) rfl (by omega) (by omega) ?_
  refine xV.step rfl ?_
  refine xV.step rfl ?_
  refine xV.step rfl ?_
  refine xV.br rfl (fun h3 => ?_) (fun h3 => absurd ((lg_cmp_eq0 _ _).mpr e6) h3)
  refine xV.step rfl ?_
  exact kk E1 S1 A1 g1 _ _ _ _ e2 (R1.mod hO A1) C1 hM1
theorem w_keep (hO : lO m out (D.1 1000)) (R : Rep E (D.1 1000) S (lKm m A out g K0) h) (C : Cpl S A) (hr : h.2.1 + 7 ≤ xCmax ∧ h.2.2.1 + 216 ≤ xSmax) (hK : ∀ A g, lKm m A out g K0 sc = some (.inl (true, .int, n, .inl f))) (hin1 : vp_in (i + 1) n) (hin2 : vp_in (i + 2) n) (hin3 : vp_in (i + 3) n) (hin4 : vp_in (i + 4) n) (hin5 : vp_in (i + 5) n) (hin6 : vp_in (i + 6) n) (kk : ∀ (E' : RO → Nat) (S' : CS) (A' : MS) (g' : Nat → Int64) (u : XH) (l5 l6 l7 : Option Value), E' (0, 0, 0) = E (0, 0, 0) → Rep E' (D.1 1000) S' (lKm m A' out g' K0) u → Cpl S' A' → xMk h u 7 216 → xV D N0 mW6 (d + 21) 2126 [some (.ref sc), some (.ref (E (0, 0, 0))), some (.ref m), some (.ref out), some (.int i), l5, l6, l7] [] u Q) : xV D N0 mW6 (d + 21) 730 [some (.ref sc), some (.ref (E (0, 0, 0))), some (.ref m), some (.ref out), some (.int i), l5, l6, l7] [] h Q := by
  have hs := (R.2.2.1 sc _ (hK A g)).1
  obtain ⟨RX, hcls, hmod⟩ := o_keep (D := D) (N0 := N0) (d := d) (c := f (i + 1).toNatClampNeg) (k := f (i + 2).toNatClampNeg) (s := ((f (i + 3).toNatClampNeg).toInt64 <<< ((32 : Int32).toInt64 &&& 63)) ||| ((f (i + 4).toNatClampNeg).toInt64 &&& 4294967295)) hO R C hr
  refine xV.step rfl ?_
  refine xV.step rfl ?_
  refine xV.step rfl ?_
  refine xV.step rfl ?_
  refine xV.step rfl ?_
  refine xV.iald rfl hs (hin1) ?_
  refine xV.step rfl ?_
  refine xV.step rfl ?_
  refine xV.step rfl ?_
  refine xV.step rfl ?_
  refine xV.iald rfl hs (hin2) ?_
  refine xV.step rfl ?_
  refine xV.step rfl ?_
  refine xV.step rfl ?_
  refine xV.step rfl ?_
  refine xV.iald rfl hs (hin3) ?_
  refine xV.step rfl ?_
  refine xV.step rfl ?_
  refine xV.step rfl ?_
  refine xV.step rfl ?_
  refine xV.step rfl ?_
  refine xV.step rfl ?_
  refine xV.step rfl ?_
  refine xV.iald rfl hs (hin4) ?_
  refine xV.step rfl ?_
  refine xV.step rfl ?_
  refine xV.step rfl ?_
  refine xV.step rfl ?_
  refine xV.step rfl ?_
  refine xV.callS (n := 5) rfl rfl g_mW_135 mL_keep_ok (Nat.le_of_ble_eq_true rfl) (Nat.le_of_ble_eq_true rfl) hcls (fun v u hz => ?_) (fun a u hz => by obtain ⟨k, _, _, _, e, _⟩ := hz; cases e)
  obtain ⟨k, E1, S1, g1, e1, e2, R1, hM1, hR⟩ := hz
  cases e1
  have hs1 := (R1.2.2.1 sc _ (hK A g1)).1
  have hm1 := hmod u k S1 (g1 0) hR
  rw [R1.hmE] at hm1
  refine xV.step rfl ?_
  show xV D N0 mW6 (d + 21) 771 [some (.ref sc), some (.ref (E (0, 0, 0))), some (.ref m), some (.ref out), some (.int i), some (.int k), l6, l7] _ _ _
  refine xV.step rfl ?_
  refine xV.step rfl ?_
  refine xV.step rfl ?_
  refine xV.step rfl ?_
  refine xV.step rfl ?_
  refine xV.iald rfl hs1 (hin1) ?_
  refine xV.step rfl ?_
  refine xV.step rfl ?_
  refine xV.step rfl ?_
  refine xV.step rfl ?_
  refine xV.iald rfl hs1 (hin2) ?_
  refine xV.step rfl ?_
  refine xV.step rfl ?_
  refine xV.step rfl ?_
  refine xV.step rfl ?_
  refine xV.iald rfl hs1 (hin3) ?_
  refine xV.step rfl ?_
  refine xV.step rfl ?_
  refine xV.step rfl ?_
  refine xV.step rfl ?_
  refine xV.step rfl ?_
  refine xV.step rfl ?_
  refine xV.step rfl ?_
  refine xV.iald rfl hs1 (hin4) ?_
  refine xV.step rfl ?_
  refine xV.step rfl ?_
  refine xV.step rfl ?_
  refine xV.step rfl ?_
  refine xV.callV (n := 3) (q := ("ChannelNetModel", xTM, 48)) rfl rfl (R1.mget) rfl g_mW_138 mM_keep_ok (Nat.le_of_ble_eq_true rfl) (Nat.le_of_ble_eq_true rfl) hm1 (fun v w hz => ?_) (fun a w hz => by obtain ⟨_, _, e, _⟩ := hz; cases e)
  obtain ⟨v2, A1, e3, rfl, h0, C1, hw, hy⟩ := hz
  cases e3
  obtain ⟨y1, xx, rfl, -⟩ := hw
  refine xV.step rfl ?_
  show xV D N0 mW6 (d + 21) 811 [some (.ref sc), some (.ref (E (0, 0, 0))), some (.ref m), some (.ref out), some (.int i), some (.int k), some (.int xx), l7] _ _ _
  refine xV.step rfl ?_
  refine xV.cM (n := 0) rfl rfl g_mW_109 mM_thrown_ok (Nat.le_of_ble_eq_true rfl) (Nat.le_of_ble_eq_true rfl) c_M_thrown ?_
  refine xV.step rfl ?_
  refine xV.br rfl (fun h1 => ?_) (fun h1 => absurd h0 h1)
  refine xV.step rfl ?_
  refine xV.br rfl (fun h2 => ?_) (fun h2 => ?_)
  rotate_left
  · refine xV.step rfl ?_
    exact kk E1 S1 A1 g1 _ _ _ _ e2 (R1.mod hO A1) C1 hM1
  have hy1 := hy h2
  obtain ⟨x2, e5, e6⟩ := hy1
  cases e5
  refine xV.step rfl ?_
  refine xV.step rfl ?_
  refine xV.ij (j := 0) rfl ((R1.mod hO A1).outg hO) rfl (by omega) (by omega) ?_
  refine xV.step rfl ?_
  refine xV.step rfl ?_
  refine xV.step rfl ?_
  refine xV.br rfl (fun h3 => ?_) (fun h3 => absurd ((lg_cmp_eq0 _ _).mpr e6) h3)
  refine xV.step rfl ?_
  exact kk E1 S1 A1 g1 _ _ _ _ e2 (R1.mod hO A1) C1 hM1
end X99n
