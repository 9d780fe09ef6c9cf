/- Part 99p: the law's loop, cases 14 to 20, printed by wip/whole/tools/gen_law.py -/
section X99p
variable {D : va_G} {N0 d : Nat} {E : RO → Nat} {m out sc n : Nat} {S : CS} {A : MS} {g : Nat → Int64} {K0 : Nat → Option XC} {h : XH} {f : Nat → Int32} {i : Int32} {l5 l6 l7 : Option Value} {Q : Outcome → XH → Prop}
theorem w_publish (hO : lO m out (D.1 1000)) (R : Rep E (D.1 1000) S (lKm m A out g K0) h) (C : Cpl S A) (hr : h.2.1 + 7 ≤ xCmax ∧ h.2.2.1 + 216 ≤ xSmax) (hK : ∀ A g, lKm m A out g K0 sc = some (.inl (true, .int, n, .inl f))) (hin1 : vp_in (i + 1) n) (hin2 : vp_in (i + 2) n) (hin3 : vp_in (i + 3) n) (hin4 : vp_in (i + 4) n) (hin5 : vp_in (i + 5) n) (hin6 : vp_in (i + 6) n) (kk : ∀ (E' : RO → Nat) (S' : CS) (A' : MS) (g' : Nat → Int64) (u : XH) (l5 l6 l7 : Option Value), E' (0, 0, 0) = E (0, 0, 0) → Rep E' (D.1 1000) S' (lKm m A' out g' K0) u → Cpl S' A' → xMk h u 7 216 → xV D N0 mW14 (d + 21) 2126 [some (.ref sc), some (.ref (E (0, 0, 0))), some (.ref m), some (.ref out), some (.int i), l5, l6, l7] [] u Q) : xV D N0 mW14 (d + 21) 1344 [some (.ref sc), some (.ref (E (0, 0, 0))), some (.ref m), some (.ref out), some (.int i), l5, l6, l7] [] h Q := by
  have hs := (R.2.2.1 sc _ (hK A g)).1
  obtain ⟨RX, hcls, hmod⟩ := o_publish (D := D) (N0 := N0) (d := d) (c := f (i + 1).toNatClampNeg) (n := f (i + 2).toNatClampNeg) (s := f (i + 3).toNatClampNeg) hO R C hr
  refine xV.step rfl ?_
  refine xV.step rfl ?_
  refine xV.step rfl ?_
  refine xV.step rfl ?_
  refine xV.step rfl ?_
  refine xV.iald rfl hs (hin1) ?_
  refine xV.step rfl ?_
  refine xV.step rfl ?_
  refine xV.step rfl ?_
  refine xV.step rfl ?_
  refine xV.iald rfl hs (hin2) ?_
  refine xV.step rfl ?_
  refine xV.step rfl ?_
  refine xV.step rfl ?_
  refine xV.step rfl ?_
  refine xV.iald rfl hs (hin3) ?_
  refine xV.callS (n := 4) rfl rfl g_mW_164 mL_publish_ok (Nat.le_of_ble_eq_true rfl) (Nat.le_of_ble_eq_true rfl) hcls (fun v u hz => ?_) (fun a u hz => by obtain ⟨k, _, _, _, e, _⟩ := hz; cases e)
  obtain ⟨k, E1, S1, g1, e1, e2, R1, hM1, hR⟩ := hz
  cases e1
  have hs1 := (R1.2.2.1 sc _ (hK A g1)).1
  have hm1 := hmod u k S1 (g1 0) hR
  rw [R1.hmE] at hm1
  refine xV.step rfl ?_
  show xV D N0 mW14 (d + 21) 1368 [some (.ref sc), some (.ref (E (0, 0, 0))), some (.ref m), some (.ref out), some (.int i), some (.int k), l6, l7] _ _ _
  refine xV.step rfl ?_
  refine xV.step rfl ?_
  refine xV.step rfl ?_
  refine xV.step rfl ?_
  refine xV.step rfl ?_
  refine xV.iald rfl hs1 (hin1) ?_
  refine xV.step rfl ?_
  refine xV.step rfl ?_
  refine xV.step rfl ?_
  refine xV.step rfl ?_
  refine xV.iald rfl hs1 (hin2) ?_
  refine xV.step rfl ?_
  refine xV.step rfl ?_
  refine xV.step rfl ?_
  refine xV.step rfl ?_
  refine xV.iald rfl hs1 (hin3) ?_
  refine xV.callV (n := 3) (q := ("ChannelNetModel", xTM, 48)) rfl rfl (R1.mget) rfl g_mW_167 mM_publish_ok (Nat.le_of_ble_eq_true rfl) (Nat.le_of_ble_eq_true rfl) hm1 (fun v w hz => ?_) (fun a w hz => by obtain ⟨_, _, e, _⟩ := hz; cases e)
  obtain ⟨v2, A1, e3, rfl, h0, C1, hw, hy⟩ := hz
  cases e3
  obtain ⟨y1, rfl⟩ := hw
  refine xV.step rfl ?_
  refine xV.cM (n := 0) rfl rfl g_mW_109 mM_thrown_ok (Nat.le_of_ble_eq_true rfl) (Nat.le_of_ble_eq_true rfl) c_M_thrown ?_
  refine xV.step rfl ?_
  refine xV.br rfl (fun h1 => ?_) (fun h1 => absurd h0 h1)
  refine xV.step rfl ?_
  exact kk E1 S1 A1 g1 _ _ _ _ e2 (R1.mod hO A1) C1 hM1
theorem w_punish (hO : lO m out (D.1 1000)) (R : Rep E (D.1 1000) S (lKm m A out g K0) h) (C : Cpl S A) (hr : h.2.1 + 7 ≤ xCmax ∧ h.2.2.1 + 216 ≤ xSmax) (hK : ∀ A g, lKm m A out g K0 sc = some (.inl (true, .int, n, .inl f))) (hin1 : vp_in (i + 1) n) (hin2 : vp_in (i + 2) n) (hin3 : vp_in (i + 3) n) (hin4 : vp_in (i + 4) n) (hin5 : vp_in (i + 5) n) (hin6 : vp_in (i + 6) n) (kk : ∀ (E' : RO → Nat) (S' : CS) (A' : MS) (g' : Nat → Int64) (u : XH) (l5 l6 l7 : Option Value), E' (0, 0, 0) = E (0, 0, 0) → Rep E' (D.1 1000) S' (lKm m A' out g' K0) u → Cpl S' A' → xMk h u 7 216 → xV D N0 mW15 (d + 21) 2126 [some (.ref sc), some (.ref (E (0, 0, 0))), some (.ref m), some (.ref out), some (.int i), l5, l6, l7] [] u Q) : xV D N0 mW15 (d + 21) 1404 [some (.ref sc), some (.ref (E (0, 0, 0))), some (.ref m), some (.ref out), some (.int i), l5, l6, l7] [] h Q := by
  have hs := (R.2.2.1 sc _ (hK A g)).1
  obtain ⟨RX, hcls, hmod⟩ := o_punish (D := D) (N0 := N0) (d := d) (c := f (i + 1).toNatClampNeg) hO R C hr
  refine xV.step rfl ?_
  refine xV.step rfl ?_
  refine xV.step rfl ?_
  refine xV.step rfl ?_
  refine xV.step rfl ?_
  refine xV.iald rfl hs (hin1) ?_
  refine xV.step rfl ?_
  refine xV.callS (n := 3) rfl rfl g_mW_168 mL_punish_ok (Nat.le_of_ble_eq_true rfl) (Nat.le_of_ble_eq_true rfl) hcls (fun v u hz => ?_) (fun a u hz => by obtain ⟨k, _, _, _, e, _⟩ := hz; cases e)
  obtain ⟨k, E1, S1, g1, e1, e2, R1, hM1, hR⟩ := hz
  cases e1
  have hs1 := (R1.2.2.1 sc _ (hK A g1)).1
  have hm1 := hmod u k S1 (g1 0) hR
  rw [R1.hmE] at hm1
  refine xV.step rfl ?_
  show xV D N0 mW15 (d + 21) 1417 [some (.ref sc), some (.ref (E (0, 0, 0))), some (.ref m), some (.ref out), some (.int i), some (.int k), l6, l7] _ _ _
  refine xV.step rfl ?_
  refine xV.step rfl ?_
  refine xV.step rfl ?_
  refine xV.step rfl ?_
  refine xV.step rfl ?_
  refine xV.iald rfl hs1 (hin1) ?_
  refine xV.callV (n := 1) (q := ("ChannelNetModel", xTM, 48)) rfl rfl (R1.mget) rfl g_mW_170 mM_punish_ok (Nat.le_of_ble_eq_true rfl) (Nat.le_of_ble_eq_true rfl) hm1 (fun v w hz => ?_) (fun a w hz => by obtain ⟨_, _, e, _⟩ := hz; cases e)
  obtain ⟨v2, A1, e3, rfl, h0, C1, hw, hy⟩ := hz
  cases e3
  obtain ⟨y1, xx, rfl, -⟩ := hw
  refine xV.step rfl ?_
  show xV D N0 mW15 (d + 21) 1429 [some (.ref sc), some (.ref (E (0, 0, 0))), some (.ref m), some (.ref out), some (.int i), some (.int k), some (.int xx), l7] _ _ _
  refine xV.step rfl ?_
  refine xV.cM (n := 0) rfl rfl g_mW_109 mM_thrown_ok (Nat.le_of_ble_eq_true rfl) (Nat.le_of_ble_eq_true rfl) c_M_thrown ?_
  refine xV.step rfl ?_
  refine xV.br rfl (fun h1 => ?_) (fun h1 => absurd h0 h1)
  refine xV.step rfl ?_
  refine xV.br rfl (fun h2 => ?_) (fun h2 => ?_)
  rotate_left
  · refine xV.step rfl ?_
    exact kk E1 S1 A1 g1 _ _ _ _ e2 (R1.mod hO A1) C1 hM1
  have hy1 := hy h2
  obtain ⟨x2, e5, e6⟩ := hy1
  cases e5
  refine xV.step rfl ?_
  refine xV.step rfl ?_
  refine xV.ij (j := 0) rfl ((R1.mod hO A1).outg hO) rfl (by omega) (by omega) ?_
  refine xV.step rfl ?_
  refine xV.step rfl ?_
  refine xV.step rfl ?_
  refine xV.br rfl (fun h3 => ?_) (fun h3 => absurd ((lg_cmp_eq0 _ _).mpr e6) h3)
  refine xV.step rfl ?_
  exact kk E1 S1 A1 g1 _ _ _ _ e2 (R1.mod hO A1) C1 hM1
theorem w_claim (hO : lO m out (D.1 1000)) (R : Rep E (D.1 1000) S (lKm m A out g K0) h) (C : Cpl S A) (hr : h.2.1 + 7 ≤ xCmax ∧ h.2.2.1 + 216 ≤ xSmax) (hK : ∀ A g, lKm m A out g K0 sc = some (.inl (true, .int, n, .inl f))) (hin1 : vp_in (i + 1) n) (hin2 : vp_in (i + 2) n) (hin3 : vp_in (i + 3) n) (hin4 : vp_in (i + 4) n) (hin5 : vp_in (i + 5) n) (hin6 : vp_in (i + 6) n) (kk : ∀ (E' : RO → Nat) (S' : CS) (A' : MS) (g' : Nat → Int64) (u : XH) (l5 l6 l7 : Option Value), E' (0, 0, 0) = E (0, 0, 0) → Rep E' (D.1 1000) S' (lKm m A' out g' K0) u → Cpl S' A' → xMk h u 7 216 → xV D N0 mW16 (d + 21) 2126 [some (.ref sc), some (.ref (E (0, 0, 0))), some (.ref m), some (.ref out), some (.int i), l5, l6, l7] [] u Q) : xV D N0 mW16 (d + 21) 1460 [some (.ref sc), some (.ref (E (0, 0, 0))), some (.ref m), some (.ref out), some (.int i), l5, l6, l7] [] h Q := by
  have hs := (R.2.2.1 sc _ (hK A g)).1
  obtain ⟨RX, hcls, hmod⟩ := o_claim (D := D) (N0 := N0) (d := d) (c := f (i + 1).toNatClampNeg) (k := f (i + 2).toNatClampNeg) (s := ((f (i + 3).toNatClampNeg).toInt64 <<< ((32 : Int32).toInt64 &&& 63)) ||| ((f (i + 4).toNatClampNeg).toInt64 &&& 4294967295)) hO R C hr
  refine xV.step rfl ?_
  refine xV.step rfl ?_
  refine xV.step rfl ?_
  refine xV.step rfl ?_
  refine xV.step rfl ?_
  refine xV.iald rfl hs (hin1) ?_
  refine xV.step rfl ?_
  refine xV.step rfl ?_
  refine xV.step rfl ?_
  refine xV.step rfl ?_
  refine xV.iald rfl hs (hin2) ?_
  refine xV.step rfl ?_
  refine xV.step rfl ?_
  refine xV.step rfl ?_
  refine xV.step rfl ?_
  refine xV.iald rfl hs (hin3) ?_
  refine xV.step rfl ?_
  refine xV.step rfl ?_
  refine xV.step rfl ?_
  refine xV.step rfl ?_
  refine xV.step rfl ?_
  refine xV.step rfl ?_
  refine xV.step rfl ?_
  refine xV.iald rfl hs (hin4) ?_
  refine xV.step rfl ?_
  refine xV.step rfl ?_
  refine xV.step rfl ?_
  refine xV.step rfl ?_
  refine xV.step rfl ?_
  refine xV.callS (n := 5) rfl rfl g_mW_171 mL_claim_ok (Nat.le_of_ble_eq_true rfl) (Nat.le_of_ble_eq_true rfl) hcls (fun v u hz => ?_) (fun a u hz => by obtain ⟨k, _, _, _, e, _⟩ := hz; cases e)
  obtain ⟨k, E1, S1, g1, e1, e2, R1, hM1, hR⟩ := hz
  cases e1
  have hs1 := (R1.2.2.1 sc _ (hK A g1)).1
  have hm1 := hmod u k S1 (g1 0) hR
  rw [R1.hmE] at hm1
  refine xV.step rfl ?_
  show xV D N0 mW16 (d + 21) 1501 [some (.ref sc), some (.ref (E (0, 0, 0))), some (.ref m), some (.ref out), some (.int i), some (.int k), l6, l7] _ _ _
  refine xV.step rfl ?_
  refine xV.step rfl ?_
  refine xV.step rfl ?_
  refine xV.step rfl ?_
  refine xV.step rfl ?_
  refine xV.iald rfl hs1 (hin1) ?_
  refine xV.step rfl ?_
  refine xV.step rfl ?_
  refine xV.step rfl ?_
  refine xV.step rfl ?_
  refine xV.iald rfl hs1 (hin2) ?_
  refine xV.step rfl ?_
  refine xV.step rfl ?_
  refine xV.step rfl ?_
  refine xV.step rfl ?_
  refine xV.iald rfl hs1 (hin3) ?_
  refine xV.step rfl ?_
  refine xV.step rfl ?_
  refine xV.step rfl ?_
  refine xV.step rfl ?_
  refine xV.step rfl ?_
  refine xV.step rfl ?_
  refine xV.step rfl ?_
  refine xV.iald rfl hs1 (hin4) ?_
  refine xV.step rfl ?_
  refine xV.step rfl ?_
  refine xV.step rfl ?_
  refine xV.step rfl ?_
  refine xV.callV (n := 3) (q := ("ChannelNetModel", xTM, 48)) rfl rfl (R1.mget) rfl g_mW_173 mM_claim_ok (Nat.le_of_ble_eq_true rfl) (Nat.le_of_ble_eq_true rfl) hm1 (fun v w hz => ?_) (fun a w hz => by obtain ⟨_, _, e, _⟩ := hz; cases e)
  obtain ⟨v2, A1, e3, rfl, h0, C1, hw, hy⟩ := hz
  cases e3
  obtain ⟨y1, xx, rfl, -⟩ := hw
  refine xV.step rfl ?_
  show xV D N0 mW16 (d + 21) 1541 [some (.ref sc), some (.ref (E (0, 0, 0))), some (.ref m), some (.ref out), some (.int i), some (.int k), some (.int xx), l7] _ _ _
  refine xV.step rfl ?_
  refine xV.cM (n := 0) rfl rfl g_mW_109 mM_thrown_ok (Nat.le_of_ble_eq_true rfl) (Nat.le_of_ble_eq_true rfl) c_M_thrown ?_
  refine xV.step rfl ?_
  refine xV.br rfl (fun h1 => ?_) (fun h1 => absurd h0 h1)
  refine xV.step rfl ?_
  refine xV.br rfl (fun h2 => ?_) (fun h2 => ?_)
  rotate_left
  · refine xV.step rfl ?_
    exact kk E1 S1 A1 g1 _ _ _ _ e2 (R1.mod hO A1) C1 hM1
  have hy1 := hy h2
  obtain ⟨x2, e5, e6⟩ := hy1
  cases e5
  refine xV.step rfl ?_
  refine xV.step rfl ?_
  refine xV.ij (j := 0) rfl ((R1.mod hO A1).outg hO) rfl (by omega) (by omega) ?_
  refine xV.step rfl ?_
  refine xV.step rfl ?_
  refine xV.step rfl ?_
  refine xV.br rfl (fun h3 => ?_) (fun h3 => absurd ((lg_cmp_eq0 _ _).mpr e6) h3)
  refine xV.step rfl ?_
  exact kk E1 S1 A1 g1 _ _ _ _ e2 (R1.mod hO A1) C1 hM1
theorem w_takeBack (hO : lO m out (D.1 1000)) (R : Rep E (D.1 1000) S (lKm m A out g K0) h) (C : Cpl S A) (hr : h.2.1 + 7 ≤ xCmax ∧ h.2.2.1 + 216 ≤ xSmax) (hK : ∀ A g, lKm m A out g K0 sc = some (.inl (true, .int, n, .inl f))) (hin1 : vp_in (i + 1) n) (hin2 : vp_in (i + 2) n) (hin3 : vp_in (i + 3) n) (hin4 : vp_in (i + 4) n) (hin5 : vp_in (i + 5) n) (hin6 : vp_in (i + 6) n) (kk : ∀ (E' : RO → Nat) (S' : CS) (A' : MS) (g' : Nat → Int64) (u : XH) (l5 l6 l7 : Option Value), E' (0, 0, 0) = E (0, 0, 0) → Rep E' (D.1 1000) S' (lKm m A' out g' K0) u → Cpl S' A' → xMk h u 7 216 → xV D N0 mW17 (d + 21) 2126 [some (.ref sc), some (.ref (E (0, 0, 0))), some (.ref m), some (.ref out), some (.int i), l5, l6, l7] [] u Q) : xV D N0 mW17 (d + 21) 1572 [some (.ref sc), some (.ref (E (0, 0, 0))), some (.ref m), some (.ref out), some (.int i), l5, l6, l7] [] h Q := by
  have hs := (R.2.2.1 sc _ (hK A g)).1
  obtain ⟨RX, hcls, hmod⟩ := o_takeBack (D := D) (N0 := N0) (d := d) (c := f (i + 1).toNatClampNeg) (k := f (i + 2).toNatClampNeg) hO R C hr
  refine xV.step rfl ?_
  refine xV.step rfl ?_
  refine xV.step rfl ?_
  refine xV.step rfl ?_
  refine xV.step rfl ?_
  refine xV.iald rfl hs (hin1) ?_
  refine xV.step rfl ?_
  refine xV.step rfl ?_
  refine xV.step rfl ?_
  refine xV.step rfl ?_
  refine xV.iald rfl hs (hin2) ?_
  refine xV.step rfl ?_
  refine xV.callS (n := 4) rfl rfl g_mW_174 mL_takeBack_ok (Nat.le_of_ble_eq_true rfl) (Nat.le_of_ble_eq_true rfl) hcls (fun v u hz => ?_) (fun a u hz => by obtain ⟨k, _, _, _, e, _⟩ := hz; cases e)
  obtain ⟨k, E1, S1, g1, e1, e2, R1, hM1, hR⟩ := hz
  cases e1
  have hs1 := (R1.2.2.1 sc _ (hK A g1)).1
  have hm1 := hmod u k S1 (g1 0) hR
  rw [R1.hmE] at hm1
  refine xV.step rfl ?_
  show xV D N0 mW17 (d + 21) 1591 [some (.ref sc), some (.ref (E (0, 0, 0))), some (.ref m), some (.ref out), some (.int i), some (.int k), l6, l7] _ _ _
  refine xV.step rfl ?_
  refine xV.step rfl ?_
  refine xV.step rfl ?_
  refine xV.step rfl ?_
  refine xV.step rfl ?_
  refine xV.iald rfl hs1 (hin1) ?_
  refine xV.step rfl ?_
  refine xV.step rfl ?_
  refine xV.step rfl ?_
  refine xV.step rfl ?_
  refine xV.iald rfl hs1 (hin2) ?_
  refine xV.callV (n := 2) (q := ("ChannelNetModel", xTM, 48)) rfl rfl (R1.mget) rfl g_mW_176 mM_takeBack_ok (Nat.le_of_ble_eq_true rfl) (Nat.le_of_ble_eq_true rfl) hm1 (fun v w hz => ?_) (fun a w hz => by obtain ⟨_, _, e, _⟩ := hz; cases e)
  obtain ⟨v2, A1, e3, rfl, h0, C1, hw, hy⟩ := hz
  cases e3
  obtain ⟨y1, xx, rfl, -⟩ := hw
  refine xV.step rfl ?_
  show xV D N0 mW17 (d + 21) 1609 [some (.ref sc), some (.ref (E (0, 0, 0))), some (.ref m), some (.ref out), some (.int i), some (.int k), some (.int xx), l7] _ _ _
  refine xV.step rfl ?_
  refine xV.cM (n := 0) rfl rfl g_mW_109 mM_thrown_ok (Nat.le_of_ble_eq_true rfl) (Nat.le_of_ble_eq_true rfl) c_M_thrown ?_
  refine xV.step rfl ?_
  refine xV.br rfl (fun h1 => ?_) (fun h1 => absurd h0 h1)
  refine xV.step rfl ?_
  refine xV.br rfl (fun h2 => ?_) (fun h2 => ?_)
  rotate_left
  · refine xV.step rfl ?_
    exact kk E1 S1 A1 g1 _ _ _ _ e2 (R1.mod hO A1) C1 hM1
  have hy1 := hy h2
  obtain ⟨x2, e5, e6⟩ := hy1
  cases e5
  refine xV.step rfl ?_
  refine xV.step rfl ?_
  refine xV.ij (j := 0) rfl ((R1.mod hO A1).outg hO) rfl (by omega) (by omega) ?_
  refine xV.step rfl ?_
  refine xV.step rfl ?_
  refine xV.step rfl ?_
  refine xV.br rfl (fun h3 => ?_) (fun h3 => absurd ((lg_cmp_eq0 _ _).mpr e6) h3)
  refine xV.step rfl ?_
  exact kk E1 S1 A1 g1 _ _ _ _ e2 (R1.mod hO A1) C1 hM1
theorem w_settle (hO : lO m out (D.1 1000)) (R : Rep E (D.1 1000) S (lKm m A out g K0) h) (C : Cpl S A) (hr : h.2.1 + 7 ≤ xCmax ∧ h.2.2.1 + 216 ≤ xSmax) (hK : ∀ A g, lKm m A out g K0 sc = some (.inl (true, .int, n, .inl f))) (hin1 : vp_in (i + 1) n) (hin2 : vp_in (i + 2) n) (hin3 : vp_in (i + 3) n) (hin4 : vp_in (i + 4) n) (hin5 : vp_in (i + 5) n) (hin6 : vp_in (i + 6) n) (kk : ∀ (E' : RO → Nat) (S' : CS) (A' : MS) (g' : Nat → Int64) (u : XH) (l5 l6 l7 : Option Value), E' (0, 0, 0) = E (0, 0, 0) → Rep E' (D.1 1000) S' (lKm m A' out g' K0) u → Cpl S' A' → xMk h u 7 216 → xV D N0 mW18 (d + 21) 2126 [some (.ref sc), some (.ref (E (0, 0, 0))), some (.ref m), some (.ref out), some (.int i), l5, l6, l7] [] u Q) : xV D N0 mW18 (d + 21) 1640 [some (.ref sc), some (.ref (E (0, 0, 0))), some (.ref m), some (.ref out), some (.int i), l5, l6, l7] [] h Q := by
  have hs := (R.2.2.1 sc _ (hK A g)).1
  obtain ⟨RX, hcls, hmod⟩ := o_settle (D := D) (N0 := N0) (d := d) (c := f (i + 1).toNatClampNeg) hO R C hr
  refine xV.step rfl ?_
  refine xV.step rfl ?_
  refine xV.step rfl ?_
  refine xV.step rfl ?_
  refine xV.step rfl ?_
  refine xV.iald rfl hs (hin1) ?_
  refine xV.step rfl ?_
  refine xV.callS (n := 3) rfl rfl g_mW_177 mL_settle_ok (Nat.le_of_ble_eq_true rfl) (Nat.le_of_ble_eq_true rfl) hcls (fun v u hz => ?_) (fun a u hz => by obtain ⟨k, _, _, _, e, _⟩ := hz; cases e)
  obtain ⟨k, E1, S1, g1, e1, e2, R1, hM1, hR⟩ := hz
  cases e1
  have hs1 := (R1.2.2.1 sc _ (hK A g1)).1
  have hm1 := hmod u k S1 (g1 0) hR
  rw [R1.hmE] at hm1
  refine xV.step rfl ?_
  show xV D N0 mW18 (d + 21) 1653 [some (.ref sc), some (.ref (E (0, 0, 0))), some (.ref m), some (.ref out), some (.int i), some (.int k), l6, l7] _ _ _
  refine xV.step rfl ?_
  refine xV.step rfl ?_
  refine xV.step rfl ?_
  refine xV.step rfl ?_
  refine xV.step rfl ?_
  refine xV.iald rfl hs1 (hin1) ?_
  refine xV.callV (n := 1) (q := ("ChannelNetModel", xTM, 48)) rfl rfl (R1.mget) rfl g_mW_179 mM_settle_ok (Nat.le_of_ble_eq_true rfl) (Nat.le_of_ble_eq_true rfl) hm1 (fun v w hz => ?_) (fun a w hz => by obtain ⟨_, _, e, _⟩ := hz; cases e)
  obtain ⟨v2, A1, e3, rfl, h0, C1, hw, hy⟩ := hz
  cases e3
  obtain ⟨y1, xx, rfl, -⟩ := hw
  refine xV.step rfl ?_
  show xV D N0 mW18 (d + 21) 1665 [some (.ref sc), some (.ref (E (0, 0, 0))), some (.ref m), some (.ref out), some (.int i), some (.int k), some (.int xx), l7] _ _ _
  refine xV.step rfl ?_
  refine xV.cM (n := 0) rfl rfl g_mW_109 mM_thrown_ok (Nat.le_of_ble_eq_true rfl) (Nat.le_of_ble_eq_true rfl) c_M_thrown ?_
  refine xV.step rfl ?_
  refine xV.br rfl (fun h1 => ?_) (fun h1 => absurd h0 h1)
  refine xV.step rfl ?_
  refine xV.br rfl (fun h2 => ?_) (fun h2 => ?_)
  rotate_left
  · refine xV.step rfl ?_
    exact kk E1 S1 A1 g1 _ _ _ _ e2 (R1.mod hO A1) C1 hM1
  have hy1 := hy h2
  obtain ⟨x2, e5, e6⟩ := hy1
  cases e5
  refine xV.step rfl ?_
  refine xV.step rfl ?_
  refine xV.ij (j := 0) rfl ((R1.mod hO A1).outg hO) rfl (by omega) (by omega) ?_
  refine xV.step rfl ?_
  refine xV.step rfl ?_
  refine xV.step rfl ?_
  refine xV.br rfl (fun h3 => ?_) (fun h3 => absurd ((lg_cmp_eq0 _ _).mpr e6) h3)
  refine xV.step rfl ?_
  exact kk E1 S1 A1 g1 _ _ _ _ e2 (R1.mod hO A1) C1 hM1
theorem w_watch (hO : lO m out (D.1 1000)) (R : Rep E (D.1 1000) S (lKm m A out g K0) h) (C : Cpl S A) (hr : h.2.1 + 7 ≤ xCmax ∧ h.2.2.1 + 216 ≤ xSmax) (hK : ∀ A g, lKm m A out g K0 sc = some (.inl (true, .int, n, .inl f))) (hin1 : vp_in (i + 1) n) (hin2 : vp_in (i + 2) n) (hin3 : vp_in (i + 3) n) (hin4 : vp_in (i + 4) n) (hin5 : vp_in (i + 5) n) (hin6 : vp_in (i + 6) n) (kk : ∀ (E' : RO → Nat) (S' : CS) (A' : MS) (g' : Nat → Int64) (u : XH) (l5 l6 l7 : Option Value), E' (0, 0, 0) = E (0, 0, 0) → Rep E' (D.1 1000) S' (lKm m A' out g' K0) u → Cpl S' A' → xMk h u 7 216 → xV D N0 mW19 (d + 21) 2126 [some (.ref sc), some (.ref (E (0, 0, 0))), some (.ref m), some (.ref out), some (.int i), l5, l6, l7] [] u Q) : xV D N0 mW19 (d + 21) 1696 [some (.ref sc), some (.ref (E (0, 0, 0))), some (.ref m), some (.ref out), some (.int i), l5, l6, l7] [] h Q := by
  have hs := (R.2.2.1 sc _ (hK A g)).1
  by_cases ez : f (i + 2).toNatClampNeg = 0
  · obtain ⟨RX, hcls, hmod⟩ := o_watch (D := D) (N0 := N0) (d := d) (n := f (i + 1).toNatClampNeg) (x := 0) hO R C hr rfl
    refine xV.step rfl ?_
    refine xV.step rfl ?_
    refine xV.step rfl ?_
    refine xV.step rfl ?_
    refine xV.step rfl ?_
    refine xV.iald rfl hs hin1 ?_
    refine xV.step rfl ?_
    refine xV.step rfl ?_
    refine xV.step rfl ?_
    refine xV.step rfl ?_
    refine xV.iald rfl hs hin2 ?_
    refine xV.br rfl (fun h9 => ?_) (fun h9 => absurd ez h9)
    refine xV.step rfl ?_
    refine xV.callS (n := 3) rfl rfl g_mW_180 mL_watch_ok (Nat.le_of_ble_eq_true rfl) (Nat.le_of_ble_eq_true rfl) hcls (fun v u hz => ?_) (fun a u hz => by obtain ⟨k, _, _, _, e, _⟩ := hz; cases e)
    obtain ⟨k, E1, S1, g1, e1, e2, R1, hM1, hR⟩ := hz
    cases e1
    have hs1 := (R1.2.2.1 sc _ (hK A g1)).1
    have hm1 := hmod u k S1 (g1 0) hR
    rw [R1.hmE] at hm1
    refine xV.step rfl ?_
    show xV D N0 mW19 (d + 21) 1722 [some (.ref sc), some (.ref (E (0, 0, 0))), some (.ref m), some (.ref out), some (.int i), some (.int k), l6, l7] _ _ _
    refine xV.step rfl ?_
    refine xV.step rfl ?_
    refine xV.step rfl ?_
    refine xV.step rfl ?_
    refine xV.step rfl ?_
    refine xV.iald rfl hs1 hin1 ?_
    refine xV.step rfl ?_
    refine xV.step rfl ?_
    refine xV.step rfl ?_
    refine xV.step rfl ?_
    refine xV.iald rfl hs1 hin2 ?_
    refine xV.br rfl (fun h9 => ?_) (fun h9 => absurd ez h9)
    refine xV.step rfl ?_
    refine xV.callV (n := 2) (q := ("ChannelNetModel", xTM, 48)) rfl rfl (R1.mget) rfl g_mW_183 mM_watch_ok (Nat.le_of_ble_eq_true rfl) (Nat.le_of_ble_eq_true rfl) hm1 (fun v w hz => ?_) (fun a w hz => by obtain ⟨_, _, e, _⟩ := hz; cases e)
    obtain ⟨v2, A1, e3, rfl, h0, C1, hw, hy⟩ := hz
    cases e3
    obtain ⟨y1, rfl⟩ := hw
    refine xV.step rfl ?_
    refine xV.cM (n := 0) rfl rfl g_mW_109 mM_thrown_ok (Nat.le_of_ble_eq_true rfl) (Nat.le_of_ble_eq_true rfl) c_M_thrown ?_
    refine xV.step rfl ?_
    refine xV.br rfl (fun h1 => ?_) (fun h1 => absurd h0 h1)
    refine xV.step rfl ?_
    exact kk E1 S1 A1 g1 _ _ _ _ e2 (R1.mod hO A1) C1 hM1
  · obtain ⟨RX, hcls, hmod⟩ := o_watch (D := D) (N0 := N0) (d := d) (n := f (i + 1).toNatClampNeg) (x := 1) hO R C hr rfl
    refine xV.step rfl ?_
    refine xV.step rfl ?_
    refine xV.step rfl ?_
    refine xV.step rfl ?_
    refine xV.step rfl ?_
    refine xV.iald rfl hs hin1 ?_
    refine xV.step rfl ?_
    refine xV.step rfl ?_
    refine xV.step rfl ?_
    refine xV.step rfl ?_
    refine xV.iald rfl hs hin2 ?_
    refine xV.br rfl (fun h9 => absurd h9 ez) (fun h9 => ?_)
    refine xV.step rfl ?_
    refine xV.step rfl ?_
    refine xV.callS (n := 3) rfl rfl g_mW_180 mL_watch_ok (Nat.le_of_ble_eq_true rfl) (Nat.le_of_ble_eq_true rfl) hcls (fun v u hz => ?_) (fun a u hz => by obtain ⟨k, _, _, _, e, _⟩ := hz; cases e)
    obtain ⟨k, E1, S1, g1, e1, e2, R1, hM1, hR⟩ := hz
    cases e1
    have hs1 := (R1.2.2.1 sc _ (hK A g1)).1
    have hm1 := hmod u k S1 (g1 0) hR
    rw [R1.hmE] at hm1
    refine xV.step rfl ?_
    show xV D N0 mW19 (d + 21) 1722 [some (.ref sc), some (.ref (E (0, 0, 0))), some (.ref m), some (.ref out), some (.int i), some (.int k), l6, l7] _ _ _
    refine xV.step rfl ?_
    refine xV.step rfl ?_
    refine xV.step rfl ?_
    refine xV.step rfl ?_
    refine xV.step rfl ?_
    refine xV.iald rfl hs1 hin1 ?_
    refine xV.step rfl ?_
    refine xV.step rfl ?_
    refine xV.step rfl ?_
    refine xV.step rfl ?_
    refine xV.iald rfl hs1 hin2 ?_
    refine xV.br rfl (fun h9 => absurd h9 ez) (fun h9 => ?_)
    refine xV.step rfl ?_
    refine xV.step rfl ?_
    refine xV.callV (n := 2) (q := ("ChannelNetModel", xTM, 48)) rfl rfl (R1.mget) rfl g_mW_183 mM_watch_ok (Nat.le_of_ble_eq_true rfl) (Nat.le_of_ble_eq_true rfl) hm1 (fun v w hz => ?_) (fun a w hz => by obtain ⟨_, _, e, _⟩ := hz; cases e)
    obtain ⟨v2, A1, e3, rfl, h0, C1, hw, hy⟩ := hz
    cases e3
    obtain ⟨y1, rfl⟩ := hw
    refine xV.step rfl ?_
    refine xV.cM (n := 0) rfl rfl g_mW_109 mM_thrown_ok (Nat.le_of_ble_eq_true rfl) (Nat.le_of_ble_eq_true rfl) c_M_thrown ?_
    refine xV.step rfl ?_
    refine xV.br rfl (fun h1 => ?_) (fun h1 => absurd h0 h1)
    refine xV.step rfl ?_
    exact kk E1 S1 A1 g1 _ _ _ _ e2 (R1.mod hO A1) C1 hM1
theorem w_grow (hO : lO m out (D.1 1000)) (R : Rep E (D.1 1000) S (lKm m A out g K0) h) (C : Cpl S A) (hr : h.2.1 + 7 ≤ xCmax ∧ h.2.2.1 + 216 ≤ xSmax) (hK : ∀ A g, lKm m A out g K0 sc = some (.inl (true, .int, n, .inl f))) (hin1 : vp_in (i + 1) n) (hin2 : vp_in (i + 2) n) (hin3 : vp_in (i + 3) n) (hin4 : vp_in (i + 4) n) (hin5 : vp_in (i + 5) n) (hin6 : vp_in (i + 6) n) (kk : ∀ (E' : RO → Nat) (S' : CS) (A' : MS) (g' : Nat → Int64) (u : XH) (l5 l6 l7 : Option Value), E' (0, 0, 0) = E (0, 0, 0) → Rep E' (D.1 1000) S' (lKm m A' out g' K0) u → Cpl S' A' → xMk h u 7 216 → xV D N0 mW20 (d + 21) 2126 [some (.ref sc), some (.ref (E (0, 0, 0))), some (.ref m), some (.ref out), some (.int i), l5, l6, l7] [] u Q) : xV D N0 mW20 (d + 21) 1760 [some (.ref sc), some (.ref (E (0, 0, 0))), some (.ref m), some (.ref out), some (.int i), l5, l6, l7] [] h Q := by
  have hs := (R.2.2.1 sc _ (hK A g)).1
  obtain ⟨RX, hcls, hmod⟩ := o_grow (D := D) (N0 := N0) (d := d) (n := f (i + 1).toNatClampNeg) hO R C hr
  refine xV.step rfl ?_
  refine xV.step rfl ?_
  refine xV.step rfl ?_
  refine xV.step rfl ?_
  refine xV.step rfl ?_
  refine xV.iald rfl hs (hin1) ?_
  refine xV.step rfl ?_
  refine xV.callS (n := 3) rfl rfl g_mW_184 mL_grow_ok (Nat.le_of_ble_eq_true rfl) (Nat.le_of_ble_eq_true rfl) hcls (fun v u hz => ?_) (fun a u hz => by obtain ⟨k, _, _, _, e, _⟩ := hz; cases e)
  obtain ⟨k, E1, S1, g1, e1, e2, R1, hM1, hR⟩ := hz
  cases e1
  have hs1 := (R1.2.2.1 sc _ (hK A g1)).1
  have hm1 := hmod u k S1 (g1 0) hR
  rw [R1.hmE] at hm1
  refine xV.step rfl ?_
  show xV D N0 mW20 (d + 21) 1773 [some (.ref sc), some (.ref (E (0, 0, 0))), some (.ref m), some (.ref out), some (.int i), some (.int k), l6, l7] _ _ _
  refine xV.step rfl ?_
  refine xV.step rfl ?_
  refine xV.step rfl ?_
  refine xV.step rfl ?_
  refine xV.step rfl ?_
  refine xV.iald rfl hs1 (hin1) ?_
  refine xV.callV (n := 1) (q := ("ChannelNetModel", xTM, 48)) rfl rfl (R1.mget) rfl g_mW_186 mM_grow_ok (Nat.le_of_ble_eq_true rfl) (Nat.le_of_ble_eq_true rfl) hm1 (fun v w hz => ?_) (fun a w hz => by obtain ⟨_, _, e, _⟩ := hz; cases e)
  obtain ⟨v2, A1, e3, rfl, h0, C1, hw, hy⟩ := hz
  cases e3
  obtain ⟨y1, xx, rfl, -⟩ := hw
  refine xV.step rfl ?_
  show xV D N0 mW20 (d + 21) 1785 [some (.ref sc), some (.ref (E (0, 0, 0))), some (.ref m), some (.ref out), some (.int i), some (.int k), some (.int xx), l7] _ _ _
  refine xV.step rfl ?_
  refine xV.cM (n := 0) rfl rfl g_mW_109 mM_thrown_ok (Nat.le_of_ble_eq_true rfl) (Nat.le_of_ble_eq_true rfl) c_M_thrown ?_
  refine xV.step rfl ?_
  refine xV.br rfl (fun h1 => ?_) (fun h1 => absurd h0 h1)
  refine xV.step rfl ?_
  refine xV.br rfl (fun h2 => ?_) (fun h2 => ?_)
  rotate_left
  · refine xV.step rfl ?_
    exact kk E1 S1 A1 g1 _ _ _ _ e2 (R1.mod hO A1) C1 hM1
  have hy1 := hy h2
  obtain ⟨x2, e5, e6⟩ := hy1
  cases e5
  refine xV.step rfl ?_
  refine xV.step rfl ?_
  refine xV.ij (j := 0) rfl ((R1.mod hO A1).outg hO) rfl (by omega) (by omega) ?_
  refine xV.step rfl ?_
  refine xV.step rfl ?_
  refine xV.step rfl ?_
  refine xV.br rfl (fun h3 => ?_) (fun h3 => absurd ((lg_cmp_eq0 _ _).mpr e6) h3)
  refine xV.step rfl ?_
  exact kk E1 S1 A1 g1 _ _ _ _ e2 (R1.mod hO A1) C1 hM1
end X99p
