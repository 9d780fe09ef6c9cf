/- Part 99q: the law's loop, cases 21 to 26, printed by wip/whole/tools/gen_law.py -/
section X99q
variable {D : va_G} {N0 d : Nat} {E : RO → Nat} {m out sc n : Nat} {S : CS} {A : MS} {g : Nat → Int64} {K0 : Nat → Option XC} {h : XH} {f : Nat → Int32} {i : Int32} {l5 l6 l7 : Option Value} {Q : Outcome → XH → Prop}
theorem w_height (hO : lO m out (D.1 1000)) (R : Rep E (D.1 1000) S (lKm m A out g K0) h) (C : Cpl S A) (hr : h.2.1 + 7 ≤ xCmax ∧ h.2.2.1 + 216 ≤ xSmax) (hK : ∀ A g, lKm m A out g K0 sc = some (.inl (true, .int, n, .inl f))) (hin1 : vp_in (i + 1) n) (hin2 : vp_in (i + 2) n) (hin3 : vp_in (i + 3) n) (hin4 : vp_in (i + 4) n) (hin5 : vp_in (i + 5) n) (hin6 : vp_in (i + 6) n) (kk : ∀ (E' : RO → Nat) (S' : CS) (A' : MS) (g' : Nat → Int64) (u : XH) (l5 l6 l7 : Option Value), E' (0, 0, 0) = E (0, 0, 0) → Rep E' (D.1 1000) S' (lKm m A' out g' K0) u → Cpl S' A' → xMk h u 7 216 → xV D N0 mW21 (d + 21) 2126 [some (.ref sc), some (.ref (E (0, 0, 0))), some (.ref m), some (.ref out), some (.int i), l5, l6, l7] [] u Q) : xV D N0 mW21 (d + 21) 1816 [some (.ref sc), some (.ref (E (0, 0, 0))), some (.ref m), some (.ref out), some (.int i), l5, l6, l7] [] h Q := by
  have hs := (R.2.2.1 sc _ (hK A g)).1
  refine xV.step rfl ?_
  refine xV.cV (n := 0) (h' := h) rfl rfl R.net rfl g_mW_187 mN_height_ok (Nat.le_of_ble_eq_true rfl) (Nat.le_of_ble_eq_true rfl) (c_N_height (d := d + 20) R) ?_
  refine xV.step rfl ?_
  have hm1 := c_M_height (D := D) (N0 := N0) (d := d + 20) (m := m) (A := A) (h := h)
  rw [R.hmE] at hm1
  refine xV.cV (n := 0) (q := ("ChannelNetModel", xTM, 48)) rfl rfl R.mget rfl g_mW_190 mM_height_ok (Nat.le_of_ble_eq_true rfl) (Nat.le_of_ble_eq_true rfl) hm1 ?_
  refine xV.br rfl (fun h3 => ?_) (fun h3 => absurd C.1.1 h3)
  exact kk E S (mF A 0 0) g _ _ _ _ rfl (R.mod hO (mF A 0 0)) (C.F0 0) ⟨Nat.le_add_right _ _, Nat.le_add_right _ _⟩
theorem w_coins (hO : lO m out (D.1 1000)) (R : Rep E (D.1 1000) S (lKm m A out g K0) h) (C : Cpl S A) (hr : h.2.1 + 7 ≤ xCmax ∧ h.2.2.1 + 216 ≤ xSmax) (hK : ∀ A g, lKm m A out g K0 sc = some (.inl (true, .int, n, .inl f))) (hin1 : vp_in (i + 1) n) (hin2 : vp_in (i + 2) n) (hin3 : vp_in (i + 3) n) (hin4 : vp_in (i + 4) n) (hin5 : vp_in (i + 5) n) (hin6 : vp_in (i + 6) n) (kk : ∀ (E' : RO → Nat) (S' : CS) (A' : MS) (g' : Nat → Int64) (u : XH) (l5 l6 l7 : Option Value), E' (0, 0, 0) = E (0, 0, 0) → Rep E' (D.1 1000) S' (lKm m A' out g' K0) u → Cpl S' A' → xMk h u 7 216 → xV D N0 mW22 (d + 21) 2126 [some (.ref sc), some (.ref (E (0, 0, 0))), some (.ref m), some (.ref out), some (.int i), l5, l6, l7] [] u Q) : xV D N0 mW22 (d + 21) 1829 [some (.ref sc), some (.ref (E (0, 0, 0))), some (.ref m), some (.ref out), some (.int i), l5, l6, l7] [] h Q := by
  have hs := (R.2.2.1 sc _ (hK A g)).1
  obtain ⟨RX, hcls, hmod⟩ := o_coins (D := D) (N0 := N0) (d := d) (n := f (i + 1).toNatClampNeg) hO R C hr
  refine xV.step rfl ?_
  refine xV.step rfl ?_
  refine xV.step rfl ?_
  refine xV.step rfl ?_
  refine xV.step rfl ?_
  refine xV.iald rfl hs (hin1) ?_
  refine xV.step rfl ?_
  refine xV.callS (n := 3) rfl rfl g_mW_191 mL_coins_ok (Nat.le_of_ble_eq_true rfl) (Nat.le_of_ble_eq_true rfl) hcls (fun v u hz => ?_) (fun a u hz => by obtain ⟨k, _, _, _, e, _⟩ := hz; cases e)
  obtain ⟨k, E1, S1, g1, e1, e2, R1, hM1, hR⟩ := hz
  cases e1
  have hs1 := (R1.2.2.1 sc _ (hK A g1)).1
  have hm1 := hmod u k S1 (g1 0) hR
  rw [R1.hmE] at hm1
  refine xV.step rfl ?_
  show xV D N0 mW22 (d + 21) 1842 [some (.ref sc), some (.ref (E (0, 0, 0))), some (.ref m), some (.ref out), some (.int i), some (.int k), l6, l7] _ _ _
  refine xV.step rfl ?_
  refine xV.step rfl ?_
  refine xV.step rfl ?_
  refine xV.step rfl ?_
  refine xV.step rfl ?_
  refine xV.iald rfl hs1 (hin1) ?_
  refine xV.callV (n := 1) (q := ("ChannelNetModel", xTM, 48)) rfl rfl (R1.mget) rfl g_mW_193 mM_coins_ok (Nat.le_of_ble_eq_true rfl) (Nat.le_of_ble_eq_true rfl) hm1 (fun v w hz => ?_) (fun a w hz => by obtain ⟨_, _, e, _⟩ := hz; cases e)
  obtain ⟨v2, A1, e3, rfl, h0, C1, hw, hy⟩ := hz
  cases e3
  obtain ⟨y1, xx, rfl, -⟩ := hw
  refine xV.step rfl ?_
  show xV D N0 mW22 (d + 21) 1854 [some (.ref sc), some (.ref (E (0, 0, 0))), some (.ref m), some (.ref out), some (.int i), some (.int k), some (.int xx), l7] _ _ _
  refine xV.step rfl ?_
  refine xV.cM (n := 0) rfl rfl g_mW_109 mM_thrown_ok (Nat.le_of_ble_eq_true rfl) (Nat.le_of_ble_eq_true rfl) c_M_thrown ?_
  refine xV.step rfl ?_
  refine xV.br rfl (fun h1 => ?_) (fun h1 => absurd h0 h1)
  refine xV.step rfl ?_
  refine xV.br rfl (fun h2 => ?_) (fun h2 => ?_)
  rotate_left
  · refine xV.step rfl ?_
    exact kk E1 S1 A1 g1 _ _ _ _ e2 (R1.mod hO A1) C1 hM1
  have hy1 := hy h2
  obtain ⟨x2, e5, e6⟩ := hy1
  cases e5
  refine xV.step rfl ?_
  refine xV.step rfl ?_
  refine xV.ij (j := 0) rfl ((R1.mod hO A1).outg hO) rfl (by omega) (by omega) ?_
  refine xV.step rfl ?_
  refine xV.step rfl ?_
  refine xV.step rfl ?_
  refine xV.br rfl (fun h3 => ?_) (fun h3 => absurd ((lg_cmp_eq0 _ _).mpr e6) h3)
  refine xV.step rfl ?_
  exact kk E1 S1 A1 g1 _ _ _ _ e2 (R1.mod hO A1) C1 hM1
theorem w_channels (hO : lO m out (D.1 1000)) (R : Rep E (D.1 1000) S (lKm m A out g K0) h) (C : Cpl S A) (hr : h.2.1 + 7 ≤ xCmax ∧ h.2.2.1 + 216 ≤ xSmax) (hK : ∀ A g, lKm m A out g K0 sc = some (.inl (true, .int, n, .inl f))) (hin1 : vp_in (i + 1) n) (hin2 : vp_in (i + 2) n) (hin3 : vp_in (i + 3) n) (hin4 : vp_in (i + 4) n) (hin5 : vp_in (i + 5) n) (hin6 : vp_in (i + 6) n) (kk : ∀ (E' : RO → Nat) (S' : CS) (A' : MS) (g' : Nat → Int64) (u : XH) (l5 l6 l7 : Option Value), E' (0, 0, 0) = E (0, 0, 0) → Rep E' (D.1 1000) S' (lKm m A' out g' K0) u → Cpl S' A' → xMk h u 7 216 → xV D N0 mW23 (d + 21) 2126 [some (.ref sc), some (.ref (E (0, 0, 0))), some (.ref m), some (.ref out), some (.int i), l5, l6, l7] [] u Q) : xV D N0 mW23 (d + 21) 1885 [some (.ref sc), some (.ref (E (0, 0, 0))), some (.ref m), some (.ref out), some (.int i), l5, l6, l7] [] h Q := by
  have hs := (R.2.2.1 sc _ (hK A g)).1
  refine xV.step rfl ?_
  refine xV.cV (n := 0) (h' := h) rfl rfl R.net rfl g_mW_194 mN_channels_ok (Nat.le_of_ble_eq_true rfl) (Nat.le_of_ble_eq_true rfl) (c_N_channels (d := d + 19) R) ?_
  refine xV.step rfl ?_
  have hm1 := c_M_channels (D := D) (N0 := N0) (d := d + 20) (m := m) (A := A) (h := h)
  rw [R.hmE] at hm1
  refine xV.cV (n := 0) (q := ("ChannelNetModel", xTM, 48)) rfl rfl R.mget rfl g_mW_197 mM_channels_ok (Nat.le_of_ble_eq_true rfl) (Nat.le_of_ble_eq_true rfl) hm1 ?_
  refine xV.br rfl (fun h3 => ?_) (fun h3 => absurd C.2.2.1.1.symm h3)
  exact kk E S (mF A 0 0) g _ _ _ _ rfl (R.mod hO (mF A 0 0)) (C.F0 0) ⟨Nat.le_add_right _ _, Nat.le_add_right _ _⟩
theorem w_channel (hO : lO m out (D.1 1000)) (R : Rep E (D.1 1000) S (lKm m A out g K0) h) (C : Cpl S A) (hr : h.2.1 + 7 ≤ xCmax ∧ h.2.2.1 + 216 ≤ xSmax) (hK : ∀ A g, lKm m A out g K0 sc = some (.inl (true, .int, n, .inl f))) (hin1 : vp_in (i + 1) n) (hin2 : vp_in (i + 2) n) (hin3 : vp_in (i + 3) n) (hin4 : vp_in (i + 4) n) (hin5 : vp_in (i + 5) n) (hin6 : vp_in (i + 6) n) (kk : ∀ (E' : RO → Nat) (S' : CS) (A' : MS) (g' : Nat → Int64) (u : XH) (l5 l6 l7 : Option Value), E' (0, 0, 0) = E (0, 0, 0) → Rep E' (D.1 1000) S' (lKm m A' out g' K0) u → Cpl S' A' → xMk h u 7 216 → xV D N0 mW24 (d + 21) 2126 [some (.ref sc), some (.ref (E (0, 0, 0))), some (.ref m), some (.ref out), some (.int i), l5, l6, l7] [] u Q) : xV D N0 mW24 (d + 21) 1898 [some (.ref sc), some (.ref (E (0, 0, 0))), some (.ref m), some (.ref out), some (.int i), l5, l6, l7] [] h Q := by
  have hs := (R.2.2.1 sc _ (hK A g)).1
  obtain ⟨RX, hcls, hmod⟩ := o_channel (D := D) (N0 := N0) (d := d) (c := f (i + 1).toNatClampNeg) (w := f (i + 2).toNatClampNeg) hO R C hr
  refine xV.step rfl ?_
  refine xV.step rfl ?_
  refine xV.step rfl ?_
  refine xV.step rfl ?_
  refine xV.step rfl ?_
  refine xV.iald rfl hs (hin1) ?_
  refine xV.step rfl ?_
  refine xV.step rfl ?_
  refine xV.step rfl ?_
  refine xV.step rfl ?_
  refine xV.iald rfl hs (hin2) ?_
  refine xV.step rfl ?_
  refine xV.callS (n := 4) rfl rfl g_mW_198 mL_channel_ok (Nat.le_of_ble_eq_true rfl) (Nat.le_of_ble_eq_true rfl) hcls (fun v u hz => ?_) (fun a u hz => by obtain ⟨k, _, _, _, e, _⟩ := hz; cases e)
  obtain ⟨k, E1, S1, g1, e1, e2, R1, hM1, hR⟩ := hz
  cases e1
  have hs1 := (R1.2.2.1 sc _ (hK A g1)).1
  have hm1 := hmod u k S1 (g1 0) hR
  rw [R1.hmE] at hm1
  refine xV.step rfl ?_
  show xV D N0 mW24 (d + 21) 1917 [some (.ref sc), some (.ref (E (0, 0, 0))), some (.ref m), some (.ref out), some (.int i), some (.int k), l6, l7] _ _ _
  refine xV.step rfl ?_
  refine xV.step rfl ?_
  refine xV.step rfl ?_
  refine xV.step rfl ?_
  refine xV.step rfl ?_
  refine xV.iald rfl hs1 (hin1) ?_
  refine xV.step rfl ?_
  refine xV.step rfl ?_
  refine xV.step rfl ?_
  refine xV.step rfl ?_
  refine xV.iald rfl hs1 (hin2) ?_
  refine xV.callV (n := 2) (q := ("ChannelNetModel", xTM, 48)) rfl rfl (R1.mget) rfl g_mW_200 mM_channel_ok (Nat.le_of_ble_eq_true rfl) (Nat.le_of_ble_eq_true rfl) hm1 (fun v w hz => ?_) (fun a w hz => by obtain ⟨_, _, e, _⟩ := hz; cases e)
  obtain ⟨v2, A1, e3, rfl, h0, C1, hw, hy⟩ := hz
  cases e3
  obtain ⟨y1, xx, rfl, -⟩ := hw
  refine xV.step rfl ?_
  show xV D N0 mW24 (d + 21) 1935 [some (.ref sc), some (.ref (E (0, 0, 0))), some (.ref m), some (.ref out), some (.int i), some (.int k), some (.int xx), l7] _ _ _
  refine xV.step rfl ?_
  refine xV.cM (n := 0) rfl rfl g_mW_109 mM_thrown_ok (Nat.le_of_ble_eq_true rfl) (Nat.le_of_ble_eq_true rfl) c_M_thrown ?_
  refine xV.step rfl ?_
  refine xV.br rfl (fun h1 => ?_) (fun h1 => absurd h0 h1)
  refine xV.step rfl ?_
  refine xV.br rfl (fun h2 => ?_) (fun h2 => ?_)
  rotate_left
  · refine xV.step rfl ?_
    exact kk E1 S1 A1 g1 _ _ _ _ e2 (R1.mod hO A1) C1 hM1
  have hy1 := hy h2
  obtain ⟨x2, e5, e6⟩ := hy1
  cases e5
  refine xV.step rfl ?_
  refine xV.step rfl ?_
  refine xV.ij (j := 0) rfl ((R1.mod hO A1).outg hO) rfl (by omega) (by omega) ?_
  refine xV.step rfl ?_
  refine xV.step rfl ?_
  refine xV.step rfl ?_
  refine xV.br rfl (fun h3 => ?_) (fun h3 => absurd ((lg_cmp_eq0 _ _).mpr e6) h3)
  refine xV.step rfl ?_
  exact kk E1 S1 A1 g1 _ _ _ _ e2 (R1.mod hO A1) C1 hM1
theorem w_state (hO : lO m out (D.1 1000)) (R : Rep E (D.1 1000) S (lKm m A out g K0) h) (C : Cpl S A) (hr : h.2.1 + 7 ≤ xCmax ∧ h.2.2.1 + 216 ≤ xSmax) (hK : ∀ A g, lKm m A out g K0 sc = some (.inl (true, .int, n, .inl f))) (hin1 : vp_in (i + 1) n) (hin2 : vp_in (i + 2) n) (hin3 : vp_in (i + 3) n) (hin4 : vp_in (i + 4) n) (hin5 : vp_in (i + 5) n) (hin6 : vp_in (i + 6) n) (kk : ∀ (E' : RO → Nat) (S' : CS) (A' : MS) (g' : Nat → Int64) (u : XH) (l5 l6 l7 : Option Value), E' (0, 0, 0) = E (0, 0, 0) → Rep E' (D.1 1000) S' (lKm m A' out g' K0) u → Cpl S' A' → xMk h u 7 216 → xV D N0 mW25 (d + 21) 2126 [some (.ref sc), some (.ref (E (0, 0, 0))), some (.ref m), some (.ref out), some (.int i), l5, l6, l7] [] u Q) : xV D N0 mW25 (d + 21) 1966 [some (.ref sc), some (.ref (E (0, 0, 0))), some (.ref m), some (.ref out), some (.int i), l5, l6, l7] [] h Q := by
  have hs := (R.2.2.1 sc _ (hK A g)).1
  obtain ⟨RX, hcls, hmod⟩ := o_state (D := D) (N0 := N0) (d := d) (c := f (i + 1).toNatClampNeg) (s := f (i + 2).toNatClampNeg) (w := f (i + 3).toNatClampNeg) hO R C hr
  refine xV.step rfl ?_
  refine xV.step rfl ?_
  refine xV.step rfl ?_
  refine xV.step rfl ?_
  refine xV.step rfl ?_
  refine xV.iald rfl hs (hin1) ?_
  refine xV.step rfl ?_
  refine xV.step rfl ?_
  refine xV.step rfl ?_
  refine xV.step rfl ?_
  refine xV.iald rfl hs (hin2) ?_
  refine xV.step rfl ?_
  refine xV.step rfl ?_
  refine xV.step rfl ?_
  refine xV.step rfl ?_
  refine xV.iald rfl hs (hin3) ?_
  refine xV.step rfl ?_
  refine xV.callS (n := 5) rfl rfl g_mW_201 mL_state_ok (Nat.le_of_ble_eq_true rfl) (Nat.le_of_ble_eq_true rfl) hcls (fun v u hz => ?_) (fun a u hz => by obtain ⟨k, _, _, _, e, _⟩ := hz; cases e)
  obtain ⟨k, E1, S1, g1, e1, e2, R1, hM1, hR⟩ := hz
  cases e1
  have hs1 := (R1.2.2.1 sc _ (hK A g1)).1
  have hm1 := hmod u k S1 (g1 0) hR
  rw [R1.hmE] at hm1
  refine xV.step rfl ?_
  show xV D N0 mW25 (d + 21) 1991 [some (.ref sc), some (.ref (E (0, 0, 0))), some (.ref m), some (.ref out), some (.int i), some (.int k), l6, l7] _ _ _
  refine xV.step rfl ?_
  refine xV.step rfl ?_
  refine xV.step rfl ?_
  refine xV.step rfl ?_
  refine xV.step rfl ?_
  refine xV.iald rfl hs1 (hin1) ?_
  refine xV.step rfl ?_
  refine xV.step rfl ?_
  refine xV.step rfl ?_
  refine xV.step rfl ?_
  refine xV.iald rfl hs1 (hin2) ?_
  refine xV.step rfl ?_
  refine xV.step rfl ?_
  refine xV.step rfl ?_
  refine xV.step rfl ?_
  refine xV.iald rfl hs1 (hin3) ?_
  refine xV.callV (n := 3) (q := ("ChannelNetModel", xTM, 48)) rfl rfl (R1.mget) rfl g_mW_203 mM_state_ok (Nat.le_of_ble_eq_true rfl) (Nat.le_of_ble_eq_true rfl) hm1 (fun v w hz => ?_) (fun a w hz => by obtain ⟨_, _, e, _⟩ := hz; cases e)
  obtain ⟨v2, A1, e3, rfl, h0, C1, hw, hy⟩ := hz
  cases e3
  obtain ⟨y1, xx, rfl, -⟩ := hw
  refine xV.step rfl ?_
  show xV D N0 mW25 (d + 21) 2015 [some (.ref sc), some (.ref (E (0, 0, 0))), some (.ref m), some (.ref out), some (.int i), some (.int k), some (.int xx), l7] _ _ _
  refine xV.step rfl ?_
  refine xV.cM (n := 0) rfl rfl g_mW_109 mM_thrown_ok (Nat.le_of_ble_eq_true rfl) (Nat.le_of_ble_eq_true rfl) c_M_thrown ?_
  refine xV.step rfl ?_
  refine xV.br rfl (fun h1 => ?_) (fun h1 => absurd h0 h1)
  refine xV.step rfl ?_
  refine xV.br rfl (fun h2 => ?_) (fun h2 => ?_)
  rotate_left
  · refine xV.step rfl ?_
    exact kk E1 S1 A1 g1 _ _ _ _ e2 (R1.mod hO A1) C1 hM1
  have hy1 := hy h2
  obtain ⟨x2, e5, e6⟩ := hy1
  cases e5
  refine xV.step rfl ?_
  refine xV.step rfl ?_
  refine xV.ij (j := 0) rfl ((R1.mod hO A1).outg hO) rfl (by omega) (by omega) ?_
  refine xV.step rfl ?_
  refine xV.step rfl ?_
  refine xV.step rfl ?_
  refine xV.br rfl (fun h3 => ?_) (fun h3 => absurd ((lg_cmp_eq0 _ _).mpr e6) h3)
  refine xV.step rfl ?_
  exact kk E1 S1 A1 g1 _ _ _ _ e2 (R1.mod hO A1) C1 hM1
theorem w_made (hO : lO m out (D.1 1000)) (R : Rep E (D.1 1000) S (lKm m A out g K0) h) (C : Cpl S A) (hr : h.2.1 + 7 ≤ xCmax ∧ h.2.2.1 + 216 ≤ xSmax) (hK : ∀ A g, lKm m A out g K0 sc = some (.inl (true, .int, n, .inl f))) (hin1 : vp_in (i + 1) n) (hin2 : vp_in (i + 2) n) (hin3 : vp_in (i + 3) n) (hin4 : vp_in (i + 4) n) (hin5 : vp_in (i + 5) n) (hin6 : vp_in (i + 6) n) (kk : ∀ (E' : RO → Nat) (S' : CS) (A' : MS) (g' : Nat → Int64) (u : XH) (l5 l6 l7 : Option Value), E' (0, 0, 0) = E (0, 0, 0) → Rep E' (D.1 1000) S' (lKm m A' out g' K0) u → Cpl S' A' → xMk h u 7 216 → xV D N0 mW26 (d + 21) 2126 [some (.ref sc), some (.ref (E (0, 0, 0))), some (.ref m), some (.ref out), some (.int i), l5, l6, l7] [] u Q) : xV D N0 mW26 (d + 21) 2046 [some (.ref sc), some (.ref (E (0, 0, 0))), some (.ref m), some (.ref out), some (.int i), l5, l6, l7] [] h Q := by
  have hs := (R.2.2.1 sc _ (hK A g)).1
  obtain ⟨RX, hcls, hmod⟩ := o_made (D := D) (N0 := N0) (d := d) (c := f (i + 1).toNatClampNeg) (k := f (i + 2).toNatClampNeg) (w := f (i + 3).toNatClampNeg) hO R C hr
  refine xV.step rfl ?_
  refine xV.step rfl ?_
  refine xV.step rfl ?_
  refine xV.step rfl ?_
  refine xV.step rfl ?_
  refine xV.iald rfl hs (hin1) ?_
  refine xV.step rfl ?_
  refine xV.step rfl ?_
  refine xV.step rfl ?_
  refine xV.step rfl ?_
  refine xV.iald rfl hs (hin2) ?_
  refine xV.step rfl ?_
  refine xV.step rfl ?_
  refine xV.step rfl ?_
  refine xV.step rfl ?_
  refine xV.iald rfl hs (hin3) ?_
  refine xV.step rfl ?_
  refine xV.callS (n := 5) rfl rfl g_mW_204 mL_made_ok (Nat.le_of_ble_eq_true rfl) (Nat.le_of_ble_eq_true rfl) hcls (fun v u hz => ?_) (fun a u hz => by obtain ⟨k, _, _, _, e, _⟩ := hz; cases e)
  obtain ⟨k, E1, S1, g1, e1, e2, R1, hM1, hR⟩ := hz
  cases e1
  have hs1 := (R1.2.2.1 sc _ (hK A g1)).1
  have hm1 := hmod u k S1 (g1 0) hR
  rw [R1.hmE] at hm1
  refine xV.step rfl ?_
  show xV D N0 mW26 (d + 21) 2071 [some (.ref sc), some (.ref (E (0, 0, 0))), some (.ref m), some (.ref out), some (.int i), some (.int k), l6, l7] _ _ _
  refine xV.step rfl ?_
  refine xV.step rfl ?_
  refine xV.step rfl ?_
  refine xV.step rfl ?_
  refine xV.step rfl ?_
  refine xV.iald rfl hs1 (hin1) ?_
  refine xV.step rfl ?_
  refine xV.step rfl ?_
  refine xV.step rfl ?_
  refine xV.step rfl ?_
  refine xV.iald rfl hs1 (hin2) ?_
  refine xV.step rfl ?_
  refine xV.step rfl ?_
  refine xV.step rfl ?_
  refine xV.step rfl ?_
  refine xV.iald rfl hs1 (hin3) ?_
  refine xV.callV (n := 3) (q := ("ChannelNetModel", xTM, 48)) rfl rfl (R1.mget) rfl g_mW_206 mM_made_ok (Nat.le_of_ble_eq_true rfl) (Nat.le_of_ble_eq_true rfl) hm1 (fun v w hz => ?_) (fun a w hz => by obtain ⟨_, _, e, _⟩ := hz; cases e)
  obtain ⟨v2, A1, e3, rfl, h0, C1, hw, hy⟩ := hz
  cases e3
  obtain ⟨y1, xx, rfl, -⟩ := hw
  refine xV.step rfl ?_
  show xV D N0 mW26 (d + 21) 2095 [some (.ref sc), some (.ref (E (0, 0, 0))), some (.ref m), some (.ref out), some (.int i), some (.int k), some (.int xx), l7] _ _ _
  refine xV.step rfl ?_
  refine xV.cM (n := 0) rfl rfl g_mW_109 mM_thrown_ok (Nat.le_of_ble_eq_true rfl) (Nat.le_of_ble_eq_true rfl) c_M_thrown ?_
  refine xV.step rfl ?_
  refine xV.br rfl (fun h1 => ?_) (fun h1 => absurd h0 h1)
  refine xV.step rfl ?_
  refine xV.br rfl (fun h2 => ?_) (fun h2 => ?_)
  rotate_left
  · refine xV.step rfl ?_
    exact kk E1 S1 A1 g1 _ _ _ _ e2 (R1.mod hO A1) C1 hM1
  have hy1 := hy h2
  obtain ⟨x2, e5, e6⟩ := hy1
  cases e5
  refine xV.step rfl ?_
  refine xV.step rfl ?_
  refine xV.ij (j := 0) rfl ((R1.mod hO A1).outg hO) rfl (by omega) (by omega) ?_
  refine xV.step rfl ?_
  refine xV.step rfl ?_
  refine xV.step rfl ?_
  refine xV.br rfl (fun h3 => ?_) (fun h3 => absurd ((lg_cmp_eq0 _ _).mpr e6) h3)
  refine xV.step rfl ?_
  exact kk E1 S1 A1 g1 _ _ _ _ e2 (R1.mod hO A1) C1 hM1
end X99q
