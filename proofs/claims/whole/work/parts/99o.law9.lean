/- Part 99o: the law's loop, cases 7 to 13, printed by wip/whole/tools/gen_law.py -/
section X99o
variable {D : va_G} {N0 d : Nat} {E : RO → Nat} {m out sc n : Nat} {S : CS} {A : MS} {g : Nat → Int64} {K0 : Nat → Option XC} {h : XH} {f : Nat → Int32} {i : Int32} {l5 l6 l7 : Option Value} {Q : Outcome → XH → Prop}
theorem w_drop (hO : lO m out (D.1 1000)) (R : Rep E (D.1 1000) S (lKm m A out g K0) h) (C : Cpl S A) (hr : h.2.1 + 7 ≤ xCmax ∧ h.2.2.1 + 216 ≤ xSmax) (hK : ∀ A g, lKm m A out g K0 sc = some (.inl (true, .int, n, .inl f))) (hin1 : vp_in (i + 1) n) (hin2 : vp_in (i + 2) n) (hin3 : vp_in (i + 3) n) (hin4 : vp_in (i + 4) n) (hin5 : vp_in (i + 5) n) (hin6 : vp_in (i + 6) n) (kk : ∀ (E' : RO → Nat) (S' : CS) (A' : MS) (g' : Nat → Int64) (u : XH) (l5 l6 l7 : Option Value), E' (0, 0, 0) = E (0, 0, 0) → Rep E' (D.1 1000) S' (lKm m A' out g' K0) u → Cpl S' A' → xMk h u 7 216 → xV D N0 mW7 (d + 21) 2126 [some (.ref sc), some (.ref (E (0, 0, 0))), some (.ref m), some (.ref out), some (.int i), l5, l6, l7] [] u Q) : xV D N0 mW7 (d + 21) 842 [some (.ref sc), some (.ref (E (0, 0, 0))), some (.ref m), some (.ref out), some (.int i), l5, l6, l7] [] h Q := by
  have hs := (R.2.2.1 sc _ (hK A g)).1
  obtain ⟨RX, hcls, hmod⟩ := o_drop (D := D) (N0 := N0) (d := d) (c := f (i + 1).toNatClampNeg) (k := f (i + 2).toNatClampNeg) hO R C hr
  refine xV.step rfl ?_
  refine xV.step rfl ?_
  refine xV.step rfl ?_
  refine xV.step rfl ?_
  refine xV.step rfl ?_
  refine xV.iald rfl hs (hin1) ?_
  refine xV.step rfl ?_
  refine xV.step rfl ?_
  refine xV.step rfl ?_
  refine xV.step rfl ?_
  refine xV.iald rfl hs (hin2) ?_
  refine xV.step rfl ?_
  refine xV.callS (n := 4) rfl rfl g_mW_139 mL_drop_ok (Nat.le_of_ble_eq_true rfl) (Nat.le_of_ble_eq_true rfl) hcls (fun v u hz => ?_) (fun a u hz => by obtain ⟨k, _, _, _, e, _⟩ := hz; cases e)
  obtain ⟨k, E1, S1, g1, e1, e2, R1, hM1, hR⟩ := hz
  cases e1
  have hs1 := (R1.2.2.1 sc _ (hK A g1)).1
  have hm1 := hmod u k S1 (g1 0) hR
  rw [R1.hmE] at hm1
  refine xV.step rfl ?_
  show xV D N0 mW7 (d + 21) 861 [some (.ref sc), some (.ref (E (0, 0, 0))), some (.ref m), some (.ref out), some (.int i), some (.int k), l6, l7] _ _ _
  refine xV.step rfl ?_
  refine xV.step rfl ?_
  refine xV.step rfl ?_
  refine xV.step rfl ?_
  refine xV.step rfl ?_
  refine xV.iald rfl hs1 (hin1) ?_
  refine xV.step rfl ?_
  refine xV.step rfl ?_
  refine xV.step rfl ?_
  refine xV.step rfl ?_
  refine xV.iald rfl hs1 (hin2) ?_
  refine xV.callV (n := 2) (q := ("ChannelNetModel", xTM, 48)) rfl rfl (R1.mget) rfl g_mW_142 mM_drop_ok (Nat.le_of_ble_eq_true rfl) (Nat.le_of_ble_eq_true rfl) hm1 (fun v w hz => ?_) (fun a w hz => by obtain ⟨_, _, e, _⟩ := hz; cases e)
  obtain ⟨v2, A1, e3, rfl, h0, C1, hw, hy⟩ := hz
  cases e3
  obtain ⟨y1, xx, rfl, -⟩ := hw
  refine xV.step rfl ?_
  show xV D N0 mW7 (d + 21) 879 [some (.ref sc), some (.ref (E (0, 0, 0))), some (.ref m), some (.ref out), some (.int i), some (.int k), some (.int xx), l7] _ _ _
  refine xV.step rfl ?_
  refine xV.cM (n := 0) rfl rfl g_mW_109 mM_thrown_ok (Nat.le_of_ble_eq_true rfl) (Nat.le_of_ble_eq_true rfl) c_M_thrown ?_
  refine xV.step rfl ?_
  refine xV.br rfl (fun h1 => ?_) (fun h1 => absurd h0 h1)
  refine xV.step rfl ?_
  refine xV.br rfl (fun h2 => ?_) (fun h2 => ?_)
  rotate_left
  · refine xV.step rfl ?_
    exact kk E1 S1 A1 g1 _ _ _ _ e2 (R1.mod hO A1) C1 hM1
  have hy1 := hy h2
  obtain ⟨x2, e5, e6⟩ := hy1
  cases e5
  refine xV.step rfl ?_
  refine xV.step rfl ?_
  refine xV.ij (j := 0) rfl ((R1.mod hO A1).outg hO) rfl (by omega) (by omega) ?_
  refine xV.step rfl ?_
  refine xV.step rfl ?_
  refine xV.step rfl ?_
  refine xV.br rfl (fun h3 => ?_) (fun h3 => absurd ((lg_cmp_eq0 _ _).mpr e6) h3)
  refine xV.step rfl ?_
  exact kk E1 S1 A1 g1 _ _ _ _ e2 (R1.mod hO A1) C1 hM1
theorem w_close (hO : lO m out (D.1 1000)) (R : Rep E (D.1 1000) S (lKm m A out g K0) h) (C : Cpl S A) (hr : h.2.1 + 7 ≤ xCmax ∧ h.2.2.1 + 216 ≤ xSmax) (hK : ∀ A g, lKm m A out g K0 sc = some (.inl (true, .int, n, .inl f))) (hin1 : vp_in (i + 1) n) (hin2 : vp_in (i + 2) n) (hin3 : vp_in (i + 3) n) (hin4 : vp_in (i + 4) n) (hin5 : vp_in (i + 5) n) (hin6 : vp_in (i + 6) n) (kk : ∀ (E' : RO → Nat) (S' : CS) (A' : MS) (g' : Nat → Int64) (u : XH) (l5 l6 l7 : Option Value), E' (0, 0, 0) = E (0, 0, 0) → Rep E' (D.1 1000) S' (lKm m A' out g' K0) u → Cpl S' A' → xMk h u 7 216 → xV D N0 mW8 (d + 21) 2126 [some (.ref sc), some (.ref (E (0, 0, 0))), some (.ref m), some (.ref out), some (.int i), l5, l6, l7] [] u Q) : xV D N0 mW8 (d + 21) 910 [some (.ref sc), some (.ref (E (0, 0, 0))), some (.ref m), some (.ref out), some (.int i), l5, l6, l7] [] h Q := by
  have hs := (R.2.2.1 sc _ (hK A g)).1
  obtain ⟨RX, hcls, hmod⟩ := o_close (D := D) (N0 := N0) (d := d) (c := f (i + 1).toNatClampNeg) hO R C hr
  refine xV.step rfl ?_
  refine xV.step rfl ?_
  refine xV.step rfl ?_
  refine xV.step rfl ?_
  refine xV.step rfl ?_
  refine xV.iald rfl hs (hin1) ?_
  refine xV.callS (n := 2) rfl rfl g_mW_143 mL_close_ok (Nat.le_of_ble_eq_true rfl) (Nat.le_of_ble_eq_true rfl) hcls (fun v u hz => ?_) (fun a u hz => by obtain ⟨k, _, _, _, e, _⟩ := hz; cases e)
  obtain ⟨k, E1, S1, g1, e1, e2, R1, hM1, hR⟩ := hz
  cases e1
  have hs1 := (R1.2.2.1 sc _ (hK A g1)).1
  have hm1 := hmod u k S1 (g1 0) hR
  rw [R1.hmE] at hm1
  refine xV.step rfl ?_
  show xV D N0 mW8 (d + 21) 922 [some (.ref sc), some (.ref (E (0, 0, 0))), some (.ref m), some (.ref out), some (.int i), some (.int k), l6, l7] _ _ _
  refine xV.step rfl ?_
  refine xV.step rfl ?_
  refine xV.step rfl ?_
  refine xV.step rfl ?_
  refine xV.step rfl ?_
  refine xV.iald rfl hs1 (hin1) ?_
  refine xV.callV (n := 1) (q := ("ChannelNetModel", xTM, 48)) rfl rfl (R1.mget) rfl g_mW_146 mM_close_ok (Nat.le_of_ble_eq_true rfl) (Nat.le_of_ble_eq_true rfl) hm1 (fun v w hz => ?_) (fun a w hz => by obtain ⟨_, _, e, _⟩ := hz; cases e)
  obtain ⟨v2, A1, e3, rfl, h0, C1, hw, hy⟩ := hz
  cases e3
  obtain ⟨y1, rfl⟩ := hw
  refine xV.step rfl ?_
  refine xV.cM (n := 0) rfl rfl g_mW_109 mM_thrown_ok (Nat.le_of_ble_eq_true rfl) (Nat.le_of_ble_eq_true rfl) c_M_thrown ?_
  refine xV.step rfl ?_
  refine xV.br rfl (fun h1 => ?_) (fun h1 => absurd h0 h1)
  refine xV.step rfl ?_
  exact kk E1 S1 A1 g1 _ _ _ _ e2 (R1.mod hO A1) C1 hM1
theorem w_route (hO : lO m out (D.1 1000)) (R : Rep E (D.1 1000) S (lKm m A out g K0) h) (C : Cpl S A) (hr : h.2.1 + 7 ≤ xCmax ∧ h.2.2.1 + 216 ≤ xSmax) (hK : ∀ A g, lKm m A out g K0 sc = some (.inl (true, .int, n, .inl f))) (hin1 : vp_in (i + 1) n) (hin2 : vp_in (i + 2) n) (hin3 : vp_in (i + 3) n) (hin4 : vp_in (i + 4) n) (hin5 : vp_in (i + 5) n) (hin6 : vp_in (i + 6) n) (kk : ∀ (E' : RO → Nat) (S' : CS) (A' : MS) (g' : Nat → Int64) (u : XH) (l5 l6 l7 : Option Value), E' (0, 0, 0) = E (0, 0, 0) → Rep E' (D.1 1000) S' (lKm m A' out g' K0) u → Cpl S' A' → xMk h u 7 216 → xV D N0 mW9 (d + 21) 2126 [some (.ref sc), some (.ref (E (0, 0, 0))), some (.ref m), some (.ref out), some (.int i), l5, l6, l7] [] u Q) : xV D N0 mW9 (d + 21) 946 [some (.ref sc), some (.ref (E (0, 0, 0))), some (.ref m), some (.ref out), some (.int i), l5, l6, l7] [] h Q := by
  have hs := (R.2.2.1 sc _ (hK A g)).1
  obtain ⟨RX, hcls, hmod⟩ := o_route (D := D) (N0 := N0) (d := d) (f := f (i + 1).toNatClampNeg) (t := f (i + 2).toNatClampNeg) (a := f (i + 3).toNatClampNeg) hO R C hr
  refine xV.step rfl ?_
  refine xV.step rfl ?_
  refine xV.step rfl ?_
  refine xV.step rfl ?_
  refine xV.step rfl ?_
  refine xV.iald rfl hs (hin1) ?_
  refine xV.step rfl ?_
  refine xV.step rfl ?_
  refine xV.step rfl ?_
  refine xV.step rfl ?_
  refine xV.iald rfl hs (hin2) ?_
  refine xV.step rfl ?_
  refine xV.step rfl ?_
  refine xV.step rfl ?_
  refine xV.step rfl ?_
  refine xV.iald rfl hs (hin3) ?_
  refine xV.step rfl ?_
  refine xV.callS (n := 5) rfl rfl g_mW_147 mL_route_ok (Nat.le_of_ble_eq_true rfl) (Nat.le_of_ble_eq_true rfl) hcls (fun v u hz => ?_) (fun a u hz => by obtain ⟨k, _, _, _, e, _⟩ := hz; cases e)
  obtain ⟨k, E1, S1, g1, e1, e2, R1, hM1, hR⟩ := hz
  cases e1
  have hs1 := (R1.2.2.1 sc _ (hK A g1)).1
  have hm1 := hmod u k S1 (g1 0) hR
  rw [R1.hmE] at hm1
  refine xV.step rfl ?_
  show xV D N0 mW9 (d + 21) 971 [some (.ref sc), some (.ref (E (0, 0, 0))), some (.ref m), some (.ref out), some (.int i), some (.int k), l6, l7] _ _ _
  refine xV.step rfl ?_
  refine xV.step rfl ?_
  refine xV.step rfl ?_
  refine xV.step rfl ?_
  refine xV.step rfl ?_
  refine xV.iald rfl hs1 (hin1) ?_
  refine xV.step rfl ?_
  refine xV.step rfl ?_
  refine xV.step rfl ?_
  refine xV.step rfl ?_
  refine xV.iald rfl hs1 (hin2) ?_
  refine xV.step rfl ?_
  refine xV.step rfl ?_
  refine xV.step rfl ?_
  refine xV.step rfl ?_
  refine xV.iald rfl hs1 (hin3) ?_
  refine xV.callV (n := 3) (q := ("ChannelNetModel", xTM, 48)) rfl rfl (R1.mget) rfl g_mW_150 mM_route_ok (Nat.le_of_ble_eq_true rfl) (Nat.le_of_ble_eq_true rfl) hm1 (fun v w hz => ?_) (fun a w hz => by obtain ⟨_, _, e, _⟩ := hz; cases e)
  obtain ⟨v2, A1, e3, rfl, h0, C1, hw, hy⟩ := hz
  cases e3
  obtain ⟨y1, xx, rfl, -⟩ := hw
  refine xV.step rfl ?_
  show xV D N0 mW9 (d + 21) 995 [some (.ref sc), some (.ref (E (0, 0, 0))), some (.ref m), some (.ref out), some (.int i), some (.int k), some (.int xx), l7] _ _ _
  refine xV.step rfl ?_
  refine xV.cM (n := 0) rfl rfl g_mW_109 mM_thrown_ok (Nat.le_of_ble_eq_true rfl) (Nat.le_of_ble_eq_true rfl) c_M_thrown ?_
  refine xV.step rfl ?_
  refine xV.br rfl (fun h1 => ?_) (fun h1 => absurd h0 h1)
  refine xV.step rfl ?_
  refine xV.br rfl (fun h2 => ?_) (fun h2 => ?_)
  rotate_left
  · refine xV.step rfl ?_
    exact kk E1 S1 A1 g1 _ _ _ _ e2 (R1.mod hO A1) C1 hM1
  have hy1 := hy h2
  obtain ⟨x2, e5, e6⟩ := hy1
  cases e5
  refine xV.step rfl ?_
  refine xV.step rfl ?_
  refine xV.ij (j := 0) rfl ((R1.mod hO A1).outg hO) rfl (by omega) (by omega) ?_
  refine xV.step rfl ?_
  refine xV.step rfl ?_
  refine xV.step rfl ?_
  refine xV.br rfl (fun h3 => ?_) (fun h3 => absurd ((lg_cmp_eq0 _ _).mpr e6) h3)
  refine xV.step rfl ?_
  exact kk E1 S1 A1 g1 _ _ _ _ e2 (R1.mod hO A1) C1 hM1
theorem w_hop (hO : lO m out (D.1 1000)) (R : Rep E (D.1 1000) S (lKm m A out g K0) h) (C : Cpl S A) (hr : h.2.1 + 7 ≤ xCmax ∧ h.2.2.1 + 216 ≤ xSmax) (hK : ∀ A g, lKm m A out g K0 sc = some (.inl (true, .int, n, .inl f))) (hin1 : vp_in (i + 1) n) (hin2 : vp_in (i + 2) n) (hin3 : vp_in (i + 3) n) (hin4 : vp_in (i + 4) n) (hin5 : vp_in (i + 5) n) (hin6 : vp_in (i + 6) n) (kk : ∀ (E' : RO → Nat) (S' : CS) (A' : MS) (g' : Nat → Int64) (u : XH) (l5 l6 l7 : Option Value), E' (0, 0, 0) = E (0, 0, 0) → Rep E' (D.1 1000) S' (lKm m A' out g' K0) u → Cpl S' A' → xMk h u 7 216 → xV D N0 mW10 (d + 21) 2126 [some (.ref sc), some (.ref (E (0, 0, 0))), some (.ref m), some (.ref out), some (.int i), l5, l6, l7] [] u Q) : xV D N0 mW10 (d + 21) 1026 [some (.ref sc), some (.ref (E (0, 0, 0))), some (.ref m), some (.ref out), some (.int i), l5, l6, l7] [] h Q := by
  have hs := (R.2.2.1 sc _ (hK A g)).1
  obtain ⟨RX, hcls, hmod⟩ := o_hop (D := D) (N0 := N0) (d := d) (i := f (i + 1).toNatClampNeg) hO R C hr
  refine xV.step rfl ?_
  refine xV.step rfl ?_
  refine xV.step rfl ?_
  refine xV.step rfl ?_
  refine xV.step rfl ?_
  refine xV.iald rfl hs (hin1) ?_
  refine xV.step rfl ?_
  refine xV.callS (n := 3) rfl rfl g_mW_151 mL_hop_ok (Nat.le_of_ble_eq_true rfl) (Nat.le_of_ble_eq_true rfl) hcls (fun v u hz => ?_) (fun a u hz => by obtain ⟨k, _, _, _, e, _⟩ := hz; cases e)
  obtain ⟨k, E1, S1, g1, e1, e2, R1, hM1, hR⟩ := hz
  cases e1
  have hs1 := (R1.2.2.1 sc _ (hK A g1)).1
  have hm1 := hmod u k S1 (g1 0) hR
  rw [R1.hmE] at hm1
  refine xV.step rfl ?_
  show xV D N0 mW10 (d + 21) 1039 [some (.ref sc), some (.ref (E (0, 0, 0))), some (.ref m), some (.ref out), some (.int i), some (.int k), l6, l7] _ _ _
  refine xV.step rfl ?_
  refine xV.step rfl ?_
  refine xV.step rfl ?_
  refine xV.step rfl ?_
  refine xV.step rfl ?_
  refine xV.iald rfl hs1 (hin1) ?_
  refine xV.callV (n := 1) (q := ("ChannelNetModel", xTM, 48)) rfl rfl (R1.mget) rfl g_mW_154 mM_hop_ok (Nat.le_of_ble_eq_true rfl) (Nat.le_of_ble_eq_true rfl) hm1 (fun v w hz => ?_) (fun a w hz => by obtain ⟨_, _, e, _⟩ := hz; cases e)
  obtain ⟨v2, A1, e3, rfl, h0, C1, hw, hy⟩ := hz
  cases e3
  obtain ⟨y1, xx, rfl, -⟩ := hw
  refine xV.step rfl ?_
  show xV D N0 mW10 (d + 21) 1051 [some (.ref sc), some (.ref (E (0, 0, 0))), some (.ref m), some (.ref out), some (.int i), some (.int k), some (.int xx), l7] _ _ _
  refine xV.step rfl ?_
  refine xV.cM (n := 0) rfl rfl g_mW_109 mM_thrown_ok (Nat.le_of_ble_eq_true rfl) (Nat.le_of_ble_eq_true rfl) c_M_thrown ?_
  refine xV.step rfl ?_
  refine xV.br rfl (fun h1 => ?_) (fun h1 => absurd h0 h1)
  refine xV.step rfl ?_
  refine xV.br rfl (fun h2 => ?_) (fun h2 => ?_)
  rotate_left
  · refine xV.step rfl ?_
    exact kk E1 S1 A1 g1 _ _ _ _ e2 (R1.mod hO A1) C1 hM1
  have hy1 := hy h2
  obtain ⟨x2, e5, e6⟩ := hy1
  cases e5
  refine xV.step rfl ?_
  refine xV.step rfl ?_
  refine xV.ij (j := 0) rfl ((R1.mod hO A1).outg hO) rfl (by omega) (by omega) ?_
  refine xV.step rfl ?_
  refine xV.step rfl ?_
  refine xV.step rfl ?_
  refine xV.br rfl (fun h3 => ?_) (fun h3 => absurd ((lg_cmp_eq0 _ _).mpr e6) h3)
  refine xV.step rfl ?_
  exact kk E1 S1 A1 g1 _ _ _ _ e2 (R1.mod hO A1) C1 hM1
theorem w_pay (hO : lO m out (D.1 1000)) (R : Rep E (D.1 1000) S (lKm m A out g K0) h) (C : Cpl S A) (hr : h.2.1 + 7 ≤ xCmax ∧ h.2.2.1 + 216 ≤ xSmax) (hK : ∀ A g, lKm m A out g K0 sc = some (.inl (true, .int, n, .inl f))) (hin1 : vp_in (i + 1) n) (hin2 : vp_in (i + 2) n) (hin3 : vp_in (i + 3) n) (hin4 : vp_in (i + 4) n) (hin5 : vp_in (i + 5) n) (hin6 : vp_in (i + 6) n) (kk : ∀ (E' : RO → Nat) (S' : CS) (A' : MS) (g' : Nat → Int64) (u : XH) (l5 l6 l7 : Option Value), E' (0, 0, 0) = E (0, 0, 0) → Rep E' (D.1 1000) S' (lKm m A' out g' K0) u → Cpl S' A' → xMk h u 7 216 → xV D N0 mW11 (d + 21) 2126 [some (.ref sc), some (.ref (E (0, 0, 0))), some (.ref m), some (.ref out), some (.int i), l5, l6, l7] [] u Q) : xV D N0 mW11 (d + 21) 1082 [some (.ref sc), some (.ref (E (0, 0, 0))), some (.ref m), some (.ref out), some (.int i), l5, l6, l7] [] h Q := by
  have hs := (R.2.2.1 sc _ (hK A g)).1
  obtain ⟨RX, hcls, hmod⟩ := o_pay (D := D) (N0 := N0) (d := d) (f := f (i + 1).toNatClampNeg) (t := f (i + 2).toNatClampNeg) (a := f (i + 3).toNatClampNeg) (lo := ((f (i + 4).toNatClampNeg).toInt64 <<< ((32 : Int32).toInt64 &&& 63)) ||| ((f (i + 5).toNatClampNeg).toInt64 &&& 4294967295)) (dl := f (i + 6).toNatClampNeg) hO R C hr
  refine xV.step rfl ?_
  refine xV.step rfl ?_
  refine xV.step rfl ?_
  refine xV.step rfl ?_
  refine xV.step rfl ?_
  refine xV.iald rfl hs (hin1) ?_
  refine xV.step rfl ?_
  refine xV.step rfl ?_
  refine xV.step rfl ?_
  refine xV.step rfl ?_
  refine xV.iald rfl hs (hin2) ?_
  refine xV.step rfl ?_
  refine xV.step rfl ?_
  refine xV.step rfl ?_
  refine xV.step rfl ?_
  refine xV.iald rfl hs (hin3) ?_
  refine xV.step rfl ?_
  refine xV.step rfl ?_
  refine xV.step rfl ?_
  refine xV.step rfl ?_
  refine xV.iald rfl hs (hin4) ?_
  refine xV.step rfl ?_
  refine xV.step rfl ?_
  refine xV.step rfl ?_
  refine xV.step rfl ?_
  refine xV.step rfl ?_
  refine xV.step rfl ?_
  refine xV.step rfl ?_
  refine xV.iald rfl hs (hin5) ?_
  refine xV.step rfl ?_
  refine xV.step rfl ?_
  refine xV.step rfl ?_
  refine xV.step rfl ?_
  refine xV.step rfl ?_
  refine xV.step rfl ?_
  refine xV.step rfl ?_
  refine xV.step rfl ?_
  refine xV.iald rfl hs (hin6) ?_
  refine xV.step rfl ?_
  refine xV.callS (n := 7) rfl rfl g_mW_155 mL_pay_ok (Nat.le_of_ble_eq_true rfl) (Nat.le_of_ble_eq_true rfl) hcls (fun v u hz => ?_) (fun a u hz => by obtain ⟨k, _, _, _, e, _⟩ := hz; cases e)
  obtain ⟨k, E1, S1, g1, e1, e2, R1, hM1, hR⟩ := hz
  cases e1
  have hs1 := (R1.2.2.1 sc _ (hK A g1)).1
  have hm1 := hmod u k S1 (g1 0) hR
  rw [R1.hmE] at hm1
  refine xV.step rfl ?_
  show xV D N0 mW11 (d + 21) 1136 [some (.ref sc), some (.ref (E (0, 0, 0))), some (.ref m), some (.ref out), some (.int i), some (.int k), l6, l7] _ _ _
  refine xV.step rfl ?_
  refine xV.step rfl ?_
  refine xV.step rfl ?_
  refine xV.step rfl ?_
  refine xV.step rfl ?_
  refine xV.iald rfl hs1 (hin1) ?_
  refine xV.step rfl ?_
  refine xV.step rfl ?_
  refine xV.step rfl ?_
  refine xV.step rfl ?_
  refine xV.iald rfl hs1 (hin2) ?_
  refine xV.step rfl ?_
  refine xV.step rfl ?_
  refine xV.step rfl ?_
  refine xV.step rfl ?_
  refine xV.iald rfl hs1 (hin3) ?_
  refine xV.step rfl ?_
  refine xV.step rfl ?_
  refine xV.step rfl ?_
  refine xV.step rfl ?_
  refine xV.iald rfl hs1 (hin4) ?_
  refine xV.step rfl ?_
  refine xV.step rfl ?_
  refine xV.step rfl ?_
  refine xV.step rfl ?_
  refine xV.step rfl ?_
  refine xV.step rfl ?_
  refine xV.step rfl ?_
  refine xV.iald rfl hs1 (hin5) ?_
  refine xV.step rfl ?_
  refine xV.step rfl ?_
  refine xV.step rfl ?_
  refine xV.step rfl ?_
  refine xV.step rfl ?_
  refine xV.step rfl ?_
  refine xV.step rfl ?_
  refine xV.step rfl ?_
  refine xV.iald rfl hs1 (hin6) ?_
  refine xV.callV (n := 5) (q := ("ChannelNetModel", xTM, 48)) rfl rfl (R1.mget) rfl g_mW_157 mM_pay_ok (Nat.le_of_ble_eq_true rfl) (Nat.le_of_ble_eq_true rfl) hm1 (fun v w hz => ?_) (fun a w hz => by obtain ⟨_, _, e, _⟩ := hz; cases e)
  obtain ⟨v2, A1, e3, rfl, h0, C1, hw, hy⟩ := hz
  cases e3
  obtain ⟨y1, xx, rfl, -⟩ := hw
  refine xV.step rfl ?_
  show xV D N0 mW11 (d + 21) 1189 [some (.ref sc), some (.ref (E (0, 0, 0))), some (.ref m), some (.ref out), some (.int i), some (.int k), some (.int xx), l7] _ _ _
  refine xV.step rfl ?_
  refine xV.cM (n := 0) rfl rfl g_mW_109 mM_thrown_ok (Nat.le_of_ble_eq_true rfl) (Nat.le_of_ble_eq_true rfl) c_M_thrown ?_
  refine xV.step rfl ?_
  refine xV.br rfl (fun h1 => ?_) (fun h1 => absurd h0 h1)
  refine xV.step rfl ?_
  refine xV.br rfl (fun h2 => ?_) (fun h2 => ?_)
  rotate_left
  · refine xV.step rfl ?_
    exact kk E1 S1 A1 g1 _ _ _ _ e2 (R1.mod hO A1) C1 hM1
  have hy1 := hy h2
  obtain ⟨x2, e5, e6⟩ := hy1
  cases e5
  refine xV.step rfl ?_
  refine xV.step rfl ?_
  refine xV.ij (j := 0) rfl ((R1.mod hO A1).outg hO) rfl (by omega) (by omega) ?_
  refine xV.step rfl ?_
  refine xV.step rfl ?_
  refine xV.step rfl ?_
  refine xV.br rfl (fun h3 => ?_) (fun h3 => absurd ((lg_cmp_eq0 _ _).mpr e6) h3)
  refine xV.step rfl ?_
  exact kk E1 S1 A1 g1 _ _ _ _ e2 (R1.mod hO A1) C1 hM1
theorem w_step (hO : lO m out (D.1 1000)) (R : Rep E (D.1 1000) S (lKm m A out g K0) h) (C : Cpl S A) (hr : h.2.1 + 7 ≤ xCmax ∧ h.2.2.1 + 216 ≤ xSmax) (hK : ∀ A g, lKm m A out g K0 sc = some (.inl (true, .int, n, .inl f))) (hin1 : vp_in (i + 1) n) (hin2 : vp_in (i + 2) n) (hin3 : vp_in (i + 3) n) (hin4 : vp_in (i + 4) n) (hin5 : vp_in (i + 5) n) (hin6 : vp_in (i + 6) n) (kk : ∀ (E' : RO → Nat) (S' : CS) (A' : MS) (g' : Nat → Int64) (u : XH) (l5 l6 l7 : Option Value), E' (0, 0, 0) = E (0, 0, 0) → Rep E' (D.1 1000) S' (lKm m A' out g' K0) u → Cpl S' A' → xMk h u 7 216 → xV D N0 mW12 (d + 21) 2126 [some (.ref sc), some (.ref (E (0, 0, 0))), some (.ref m), some (.ref out), some (.int i), l5, l6, l7] [] u Q) : xV D N0 mW12 (d + 21) 1220 [some (.ref sc), some (.ref (E (0, 0, 0))), some (.ref m), some (.ref out), some (.int i), l5, l6, l7] [] h Q := by
  have hs := (R.2.2.1 sc _ (hK A g)).1
  obtain ⟨RX, hcls, hmod⟩ := o_step (D := D) (N0 := N0) (d := d) (n := f (i + 1).toNatClampNeg) hO R C hr
  refine xV.step rfl ?_
  refine xV.step rfl ?_
  refine xV.step rfl ?_
  refine xV.step rfl ?_
  refine xV.step rfl ?_
  refine xV.iald rfl hs (hin1) ?_
  refine xV.step rfl ?_
  refine xV.callS (n := 3) rfl rfl g_mW_158 mL_step_ok (Nat.le_of_ble_eq_true rfl) (Nat.le_of_ble_eq_true rfl) hcls (fun v u hz => ?_) (fun a u hz => by obtain ⟨k, _, _, _, e, _⟩ := hz; cases e)
  obtain ⟨k, E1, S1, g1, e1, e2, R1, hM1, hR⟩ := hz
  cases e1
  have hs1 := (R1.2.2.1 sc _ (hK A g1)).1
  have hm1 := hmod u k S1 (g1 0) hR
  rw [R1.hmE] at hm1
  refine xV.step rfl ?_
  show xV D N0 mW12 (d + 21) 1233 [some (.ref sc), some (.ref (E (0, 0, 0))), some (.ref m), some (.ref out), some (.int i), some (.int k), l6, l7] _ _ _
  refine xV.step rfl ?_
  refine xV.step rfl ?_
  refine xV.step rfl ?_
  refine xV.step rfl ?_
  refine xV.step rfl ?_
  refine xV.iald rfl hs1 (hin1) ?_
  refine xV.callV (n := 1) (q := ("ChannelNetModel", xTM, 48)) rfl rfl (R1.mget) rfl g_mW_160 mM_step_ok (Nat.le_of_ble_eq_true rfl) (Nat.le_of_ble_eq_true rfl) hm1 (fun v w hz => ?_) (fun a w hz => by obtain ⟨_, _, e, _⟩ := hz; cases e)
  obtain ⟨v2, A1, e3, rfl, h0, C1, hw, hy⟩ := hz
  cases e3
  obtain ⟨y1, xx, rfl, -⟩ := hw
  refine xV.step rfl ?_
  show xV D N0 mW12 (d + 21) 1245 [some (.ref sc), some (.ref (E (0, 0, 0))), some (.ref m), some (.ref out), some (.int i), some (.int k), some (.int xx), l7] _ _ _
  refine xV.step rfl ?_
  refine xV.cM (n := 0) rfl rfl g_mW_109 mM_thrown_ok (Nat.le_of_ble_eq_true rfl) (Nat.le_of_ble_eq_true rfl) c_M_thrown ?_
  refine xV.step rfl ?_
  refine xV.br rfl (fun h1 => ?_) (fun h1 => absurd h0 h1)
  refine xV.step rfl ?_
  refine xV.br rfl (fun h2 => ?_) (fun h2 => ?_)
  rotate_left
  · refine xV.step rfl ?_
    exact kk E1 S1 A1 g1 _ _ _ _ e2 (R1.mod hO A1) C1 hM1
  have hy1 := hy h2
  obtain ⟨x2, e5, e6⟩ := hy1
  cases e5
  refine xV.step rfl ?_
  refine xV.step rfl ?_
  refine xV.ij (j := 0) rfl ((R1.mod hO A1).outg hO) rfl (by omega) (by omega) ?_
  refine xV.step rfl ?_
  refine xV.step rfl ?_
  refine xV.step rfl ?_
  refine xV.br rfl (fun h3 => ?_) (fun h3 => absurd ((lg_cmp_eq0 _ _).mpr e6) h3)
  refine xV.step rfl ?_
  exact kk E1 S1 A1 g1 _ _ _ _ e2 (R1.mod hO A1) C1 hM1
theorem w_payment (hO : lO m out (D.1 1000)) (R : Rep E (D.1 1000) S (lKm m A out g K0) h) (C : Cpl S A) (hr : h.2.1 + 7 ≤ xCmax ∧ h.2.2.1 + 216 ≤ xSmax) (hK : ∀ A g, lKm m A out g K0 sc = some (.inl (true, .int, n, .inl f))) (hin1 : vp_in (i + 1) n) (hin2 : vp_in (i + 2) n) (hin3 : vp_in (i + 3) n) (hin4 : vp_in (i + 4) n) (hin5 : vp_in (i + 5) n) (hin6 : vp_in (i + 6) n) (kk : ∀ (E' : RO → Nat) (S' : CS) (A' : MS) (g' : Nat → Int64) (u : XH) (l5 l6 l7 : Option Value), E' (0, 0, 0) = E (0, 0, 0) → Rep E' (D.1 1000) S' (lKm m A' out g' K0) u → Cpl S' A' → xMk h u 7 216 → xV D N0 mW13 (d + 21) 2126 [some (.ref sc), some (.ref (E (0, 0, 0))), some (.ref m), some (.ref out), some (.int i), l5, l6, l7] [] u Q) : xV D N0 mW13 (d + 21) 1276 [some (.ref sc), some (.ref (E (0, 0, 0))), some (.ref m), some (.ref out), some (.int i), l5, l6, l7] [] h Q := by
  have hs := (R.2.2.1 sc _ (hK A g)).1
  obtain ⟨RX, hcls, hmod⟩ := o_payment (D := D) (N0 := N0) (d := d) (p := f (i + 1).toNatClampNeg) (w := f (i + 2).toNatClampNeg) hO R C hr
  refine xV.step rfl ?_
  refine xV.step rfl ?_
  refine xV.step rfl ?_
  refine xV.step rfl ?_
  refine xV.step rfl ?_
  refine xV.iald rfl hs (hin1) ?_
  refine xV.step rfl ?_
  refine xV.step rfl ?_
  refine xV.step rfl ?_
  refine xV.step rfl ?_
  refine xV.iald rfl hs (hin2) ?_
  refine xV.step rfl ?_
  refine xV.callS (n := 4) rfl rfl g_mW_161 mL_payment_ok (Nat.le_of_ble_eq_true rfl) (Nat.le_of_ble_eq_true rfl) hcls (fun v u hz => ?_) (fun a u hz => by obtain ⟨k, _, _, _, e, _⟩ := hz; cases e)
  obtain ⟨k, E1, S1, g1, e1, e2, R1, hM1, hR⟩ := hz
  cases e1
  have hs1 := (R1.2.2.1 sc _ (hK A g1)).1
  have hm1 := hmod u k S1 (g1 0) hR
  rw [R1.hmE] at hm1
  refine xV.step rfl ?_
  show xV D N0 mW13 (d + 21) 1295 [some (.ref sc), some (.ref (E (0, 0, 0))), some (.ref m), some (.ref out), some (.int i), some (.int k), l6, l7] _ _ _
  refine xV.step rfl ?_
  refine xV.step rfl ?_
  refine xV.step rfl ?_
  refine xV.step rfl ?_
  refine xV.step rfl ?_
  refine xV.iald rfl hs1 (hin1) ?_
  refine xV.step rfl ?_
  refine xV.step rfl ?_
  refine xV.step rfl ?_
  refine xV.step rfl ?_
  refine xV.iald rfl hs1 (hin2) ?_
  refine xV.callV (n := 2) (q := ("ChannelNetModel", xTM, 48)) rfl rfl (R1.mget) rfl g_mW_163 mM_payment_ok (Nat.le_of_ble_eq_true rfl) (Nat.le_of_ble_eq_true rfl) hm1 (fun v w hz => ?_) (fun a w hz => by obtain ⟨_, _, e, _⟩ := hz; cases e)
  obtain ⟨v2, A1, e3, rfl, h0, C1, hw, hy⟩ := hz
  cases e3
  obtain ⟨y1, xx, rfl, -⟩ := hw
  refine xV.step rfl ?_
  show xV D N0 mW13 (d + 21) 1313 [some (.ref sc), some (.ref (E (0, 0, 0))), some (.ref m), some (.ref out), some (.int i), some (.int k), some (.int xx), l7] _ _ _
  refine xV.step rfl ?_
  refine xV.cM (n := 0) rfl rfl g_mW_109 mM_thrown_ok (Nat.le_of_ble_eq_true rfl) (Nat.le_of_ble_eq_true rfl) c_M_thrown ?_
  refine xV.step rfl ?_
  refine xV.br rfl (fun h1 => ?_) (fun h1 => absurd h0 h1)
  refine xV.step rfl ?_
  refine xV.br rfl (fun h2 => ?_) (fun h2 => ?_)
  rotate_left
  · refine xV.step rfl ?_
    exact kk E1 S1 A1 g1 _ _ _ _ e2 (R1.mod hO A1) C1 hM1
  have hy1 := hy h2
  obtain ⟨x2, e5, e6⟩ := hy1
  cases e5
  refine xV.step rfl ?_
  refine xV.step rfl ?_
  refine xV.ij (j := 0) rfl ((R1.mod hO A1).outg hO) rfl (by omega) (by omega) ?_
  refine xV.step rfl ?_
  refine xV.step rfl ?_
  refine xV.step rfl ?_
  refine xV.br rfl (fun h3 => ?_) (fun h3 => absurd ((lg_cmp_eq0 _ _).mpr e6) h3)
  refine xV.step rfl ?_
  exact kk E1 S1 A1 g1 _ _ _ _ e2 (R1.mod hO A1) C1 hM1
end X99o
