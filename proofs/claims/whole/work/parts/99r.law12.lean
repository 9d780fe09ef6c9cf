/- Part 99r: the law's loop, and its start. -/
theorem and31 (v : Int32) : ∃ j, j < 32 ∧ v &&& 31 = nI j := by
  have h1 : (v &&& 31).toBitVec.toNat < 32 := by
    rw [Int32.toBitVec_and]
    show (v.toBitVec &&& 31#32).toNat < 32
    rw [BitVec.toNat_and]
    exact Nat.lt_of_le_of_lt Nat.and_le_right (by decide)
  refine ⟨(v &&& 31).toBitVec.toNat, h1, ?_⟩
  rw [← Int32.toBitVec_inj]
  show _ = BitVec.ofNat 32 _
  exact BitVec.eq_of_toNat_eq (by rw [BitVec.toNat_ofNat, Nat.mod_eq_of_lt (by omega)])
section X99r
variable {D : va_G} {N0 d : Nat} {m out sc n x : Nat} {K0 : Nat → Option XC} {f : Nat → Int32}
theorem w_loop (hO : lO m out (D.1 1000)) (hK : ∀ A g, lKm m A out g K0 sc = some (.inl (true, .int, n, .inl f))) (hn : n ≤ 3584) : ∀ (r a : Nat) (E : RO → Nat) (S : CS) (A : MS) (g : Nat → Int64) (h : XH) (l5 l6 l7 : Option Value), n < 7 * (a + r) + 7 → 7 * a ≤ n → E (0, 0, 0) = x → Rep E (D.1 1000) S (lKm m A out g K0) h → Cpl S A → h.2.1 + 7 * r ≤ xCmax → h.2.2.1 + 216 * r ≤ xSmax → xV D N0 mW (d + 21) 23 [some (.ref sc), some (.ref x), some (.ref m), some (.ref out), some (.int (nI (7 * a))), l5, l6, l7] [] h (fun o _ => o = .returned (some (.int 1))) := by
  intro r
  induction r with
  | zero =>
    intro a E S A g h l5 l6 l7 h1 h2 hx R C hc1 hc2
    have hs := (R.2.2.1 sc _ (hK A g)).1
    refine xV.step rfl ?_
    refine xV.step rfl ?_
    refine xV.alen rfl hs ?_
    refine xV.step rfl ?_
    refine xV.step rfl ?_
    refine xV.br rfl (fun z => ?_) (fun z => absurd ?_ z)
    · refine xV.step rfl ?_
      exact xV.iret rfl rfl rfl rfl
    · show nI n - 7 < nI (7 * a)
      rw [Int32.lt_iff_toInt_lt, i_sub, xn_toInt (by omega), xn_toInt (by omega)]
      · show (n : Int) - 7 < _
        omega
      · rw [xn_toInt (by omega)]
        show -2147483648 ≤ (n : Int) - 7
        omega
      · rw [xn_toInt (by omega)]
        show (n : Int) - 7 ≤ 2147483647
        omega
  | succ r ih =>
    intro a E S A g h l5 l6 l7 h1 h2 hx R C hc1 hc2
    have hs := (R.2.2.1 sc _ (hK A g)).1
    refine xV.step rfl ?_
    refine xV.step rfl ?_
    refine xV.alen rfl hs ?_
    refine xV.step rfl ?_
    refine xV.step rfl ?_
    refine xV.br rfl (fun z => ?_) (fun z => ?_)
    · refine xV.step rfl ?_
      exact xV.iret rfl rfl rfl rfl
    have hle : 7 * a + 7 ≤ n := by
      refine Nat.le_of_not_lt (fun q => z ?_)
      show nI n - 7 < nI (7 * a)
      rw [Int32.lt_iff_toInt_lt, i_sub, xn_toInt (by omega), xn_toInt (by omega)]
      · show (n : Int) - 7 < _
        omega
      · rw [xn_toInt (by omega)]
        show -2147483648 ≤ (n : Int) - 7
        omega
      · rw [xn_toInt (by omega)]
        show (n : Int) - 7 ≤ 2147483647
        omega
    subst hx
    have hin : ∀ k, k < 7 → vp_in (nI (7 * a) + nI k) n := fun k hk => by
      rw [nI_add]
      exact xn_in (by omega) (by omega)
    have hin0 : vp_in (nI (7 * a)) n := xn_in (by omega) (by omega)
    have tl : ∀ (E' : RO → Nat) (S' : CS) (A' : MS) (g' : Nat → Int64) (u : XH) (l5 l6 l7 : Option Value), E' (0, 0, 0) = E (0, 0, 0) → Rep E' (D.1 1000) S' (lKm m A' out g' K0) u → Cpl S' A' → xMk h u 7 216 → xV D N0 mW (d + 21) 2126 [some (.ref sc), some (.ref (E (0, 0, 0))), some (.ref m), some (.ref out), some (.int (nI (7 * a))), l5, l6, l7] [] u (fun o _ => o = .returned (some (.int 1))) := by
      intro E' S' A' g' u l5 l6 l7 e1 e2 e3 e4
      refine xV.step rfl ?_
      refine xV.step rfl ?_
      show xV D N0 mW (d + 21) 23 [some (.ref sc), some (.ref (E (0, 0, 0))), some (.ref m), some (.ref out), some (.int (nI (7 * a) + 7)), l5, l6, l7] [] u _
      rw [show nI (7 * a) + 7 = nI (7 * (a + 1)) from nI_add (7 * a) 7]
      have := e4.1
      have := e4.2
      exact ih (a + 1) E' S' A' g' u l5 l6 l7 (by omega) (by omega) e1 e2 e3 (by omega) (by omega)
    have hr : h.2.1 + 7 ≤ xCmax ∧ h.2.2.1 + 216 ≤ xSmax := ⟨by omega, by omega⟩
    refine xV.step rfl ?_
    refine xV.step rfl ?_
    refine xV.iald rfl hs hin0 ?_
    refine xV.step rfl ?_
    refine xV.step rfl ?_
    obtain ⟨j, hj, ej⟩ := and31 (f (nI (7 * a)).toNatClampNeg)
    show xV D N0 mW (d + 21) 40 _ [.int (f (nI (7 * a)).toNatClampNeg &&& 31)] h _
    rw [ej]
    have h26 : 26 < j ∨ j = 0 ∨ j = 1 ∨ j = 2 ∨ j = 3 ∨ j = 4 ∨ j = 5 ∨ j = 6 ∨ j = 7 ∨ j = 8 ∨ j = 9 ∨ j = 10 ∨ j = 11 ∨ j = 12 ∨ j = 13 ∨ j = 14 ∨ j = 15 ∨ j = 16 ∨ j = 17 ∨ j = 18 ∨ j = 19 ∨ j = 20 ∨ j = 21 ∨ j = 22 ∨ j = 23 ∨ j = 24 ∨ j = 25 ∨ j = 26 := by omega
    rcases h26 with z26 | rfl | rfl | rfl | rfl | rfl | rfl | rfl | rfl | rfl | rfl | rfl | rfl | rfl | rfl | rfl | rfl | rfl | rfl | rfl | rfl | rfl | rfl | rfl | rfl | rfl | rfl | rfl
    · refine xV.tOut (tgt := 2126) rfl (Or.inr ?_) rfl ?_
      · rw [xn_toInt (by omega)]
        omega
      · exact tl E S A g h l5 l6 l7 rfl R C ⟨Nat.le_add_right _ _, Nat.le_add_right _ _⟩
    · refine xV.tIn (tgt := 164) rfl (by decide) (by decide) rfl rfl ?_
      exact xV.tab (M' := mW0) rfl rfl rfl rfl rfl mW0_ok (w_open hO R C hr hK (hin 1 (by omega)) (hin 2 (by omega)) (hin 3 (by omega)) (hin 4 (by omega)) (hin 5 (by omega)) (hin 6 (by omega)) (fun E1 S1 A1 g1 u q5 q6 q7 z1 z2 z3 z4 => xV.tab (M' := mW) rfl rfl rfl rfl rfl mW_ok (tl E1 S1 A1 g1 u q5 q6 q7 z1 z2 z3 z4)))
    · refine xV.tIn (tgt := 256) rfl (by decide) (by decide) rfl rfl ?_
      exact xV.tab (M' := mW1) rfl rfl rfl rfl rfl mW1_ok (w_fees hO R C hr hK (hin 1 (by omega)) (hin 2 (by omega)) (hin 3 (by omega)) (hin 4 (by omega)) (hin 5 (by omega)) (hin 6 (by omega)) (fun E1 S1 A1 g1 u q5 q6 q7 z1 z2 z3 z4 => xV.tab (M' := mW) rfl rfl rfl rfl rfl mW_ok (tl E1 S1 A1 g1 u q5 q6 q7 z1 z2 z3 z4)))
    · refine xV.tIn (tgt := 328) rfl (by decide) (by decide) rfl rfl ?_
      exact xV.tab (M' := mW2) rfl rfl rfl rfl rfl mW2_ok (w_tell hO R C hr hK (hin 1 (by omega)) (hin 2 (by omega)) (hin 3 (by omega)) (hin 4 (by omega)) (hin 5 (by omega)) (hin 6 (by omega)) (fun E1 S1 A1 g1 u q5 q6 q7 z1 z2 z3 z4 => xV.tab (M' := mW) rfl rfl rfl rfl rfl mW_ok (tl E1 S1 A1 g1 u q5 q6 q7 z1 z2 z3 z4)))
    · refine xV.tIn (tgt := 427) rfl (by decide) (by decide) rfl rfl ?_
      exact xV.tab (M' := mW3) rfl rfl rfl rfl rfl mW3_ok (w_lock hO R C hr hK (hin 1 (by omega)) (hin 2 (by omega)) (hin 3 (by omega)) (hin 4 (by omega)) (hin 5 (by omega)) (hin 6 (by omega)) (fun E1 S1 A1 g1 u q5 q6 q7 z1 z2 z3 z4 => xV.tab (M' := mW) rfl rfl rfl rfl rfl mW_ok (tl E1 S1 A1 g1 u q5 q6 q7 z1 z2 z3 z4)))
    · refine xV.tIn (tgt := 485) rfl (by decide) (by decide) rfl rfl ?_
      exact xV.tab (M' := mW4) rfl rfl rfl rfl rfl mW4_ok (w_knows hO R C hr hK (hin 1 (by omega)) (hin 2 (by omega)) (hin 3 (by omega)) (hin 4 (by omega)) (hin 5 (by omega)) (hin 6 (by omega)) (fun E1 S1 A1 g1 u q5 q6 q7 z1 z2 z3 z4 => xV.tab (M' := mW) rfl rfl rfl rfl rfl mW_ok (tl E1 S1 A1 g1 u q5 q6 q7 z1 z2 z3 z4)))
    · refine xV.tIn (tgt := 592) rfl (by decide) (by decide) rfl rfl ?_
      exact xV.tab (M' := mW5) rfl rfl rfl rfl rfl mW5_ok (w_promise hO R C hr hK (hin 1 (by omega)) (hin 2 (by omega)) (hin 3 (by omega)) (hin 4 (by omega)) (hin 5 (by omega)) (hin 6 (by omega)) (fun E1 S1 A1 g1 u q5 q6 q7 z1 z2 z3 z4 => xV.tab (M' := mW) rfl rfl rfl rfl rfl mW_ok (tl E1 S1 A1 g1 u q5 q6 q7 z1 z2 z3 z4)))
    · refine xV.tIn (tgt := 730) rfl (by decide) (by decide) rfl rfl ?_
      exact xV.tab (M' := mW6) rfl rfl rfl rfl rfl mW6_ok (w_keep hO R C hr hK (hin 1 (by omega)) (hin 2 (by omega)) (hin 3 (by omega)) (hin 4 (by omega)) (hin 5 (by omega)) (hin 6 (by omega)) (fun E1 S1 A1 g1 u q5 q6 q7 z1 z2 z3 z4 => xV.tab (M' := mW) rfl rfl rfl rfl rfl mW_ok (tl E1 S1 A1 g1 u q5 q6 q7 z1 z2 z3 z4)))
    · refine xV.tIn (tgt := 842) rfl (by decide) (by decide) rfl rfl ?_
      exact xV.tab (M' := mW7) rfl rfl rfl rfl rfl mW7_ok (w_drop hO R C hr hK (hin 1 (by omega)) (hin 2 (by omega)) (hin 3 (by omega)) (hin 4 (by omega)) (hin 5 (by omega)) (hin 6 (by omega)) (fun E1 S1 A1 g1 u q5 q6 q7 z1 z2 z3 z4 => xV.tab (M' := mW) rfl rfl rfl rfl rfl mW_ok (tl E1 S1 A1 g1 u q5 q6 q7 z1 z2 z3 z4)))
    · refine xV.tIn (tgt := 910) rfl (by decide) (by decide) rfl rfl ?_
      exact xV.tab (M' := mW8) rfl rfl rfl rfl rfl mW8_ok (w_close hO R C hr hK (hin 1 (by omega)) (hin 2 (by omega)) (hin 3 (by omega)) (hin 4 (by omega)) (hin 5 (by omega)) (hin 6 (by omega)) (fun E1 S1 A1 g1 u q5 q6 q7 z1 z2 z3 z4 => xV.tab (M' := mW) rfl rfl rfl rfl rfl mW_ok (tl E1 S1 A1 g1 u q5 q6 q7 z1 z2 z3 z4)))
    · refine xV.tIn (tgt := 946) rfl (by decide) (by decide) rfl rfl ?_
      exact xV.tab (M' := mW9) rfl rfl rfl rfl rfl mW9_ok (w_route hO R C hr hK (hin 1 (by omega)) (hin 2 (by omega)) (hin 3 (by omega)) (hin 4 (by omega)) (hin 5 (by omega)) (hin 6 (by omega)) (fun E1 S1 A1 g1 u q5 q6 q7 z1 z2 z3 z4 => xV.tab (M' := mW) rfl rfl rfl rfl rfl mW_ok (tl E1 S1 A1 g1 u q5 q6 q7 z1 z2 z3 z4)))
    · refine xV.tIn (tgt := 1026) rfl (by decide) (by decide) rfl rfl ?_
      exact xV.tab (M' := mW10) rfl rfl rfl rfl rfl mW10_ok (w_hop hO R C hr hK (hin 1 (by omega)) (hin 2 (by omega)) (hin 3 (by omega)) (hin 4 (by omega)) (hin 5 (by omega)) (hin 6 (by omega)) (fun E1 S1 A1 g1 u q5 q6 q7 z1 z2 z3 z4 => xV.tab (M' := mW) rfl rfl rfl rfl rfl mW_ok (tl E1 S1 A1 g1 u q5 q6 q7 z1 z2 z3 z4)))
    · refine xV.tIn (tgt := 1082) rfl (by decide) (by decide) rfl rfl ?_
      exact xV.tab (M' := mW11) rfl rfl rfl rfl rfl mW11_ok (w_pay hO R C hr hK (hin 1 (by omega)) (hin 2 (by omega)) (hin 3 (by omega)) (hin 4 (by omega)) (hin 5 (by omega)) (hin 6 (by omega)) (fun E1 S1 A1 g1 u q5 q6 q7 z1 z2 z3 z4 => xV.tab (M' := mW) rfl rfl rfl rfl rfl mW_ok (tl E1 S1 A1 g1 u q5 q6 q7 z1 z2 z3 z4)))
    · refine xV.tIn (tgt := 1220) rfl (by decide) (by decide) rfl rfl ?_
      exact xV.tab (M' := mW12) rfl rfl rfl rfl rfl mW12_ok (w_step hO R C hr hK (hin 1 (by omega)) (hin 2 (by omega)) (hin 3 (by omega)) (hin 4 (by omega)) (hin 5 (by omega)) (hin 6 (by omega)) (fun E1 S1 A1 g1 u q5 q6 q7 z1 z2 z3 z4 => xV.tab (M' := mW) rfl rfl rfl rfl rfl mW_ok (tl E1 S1 A1 g1 u q5 q6 q7 z1 z2 z3 z4)))
    · refine xV.tIn (tgt := 1276) rfl (by decide) (by decide) rfl rfl ?_
      exact xV.tab (M' := mW13) rfl rfl rfl rfl rfl mW13_ok (w_payment hO R C hr hK (hin 1 (by omega)) (hin 2 (by omega)) (hin 3 (by omega)) (hin 4 (by omega)) (hin 5 (by omega)) (hin 6 (by omega)) (fun E1 S1 A1 g1 u q5 q6 q7 z1 z2 z3 z4 => xV.tab (M' := mW) rfl rfl rfl rfl rfl mW_ok (tl E1 S1 A1 g1 u q5 q6 q7 z1 z2 z3 z4)))
    · refine xV.tIn (tgt := 1344) rfl (by decide) (by decide) rfl rfl ?_
      exact xV.tab (M' := mW14) rfl rfl rfl rfl rfl mW14_ok (w_publish hO R C hr hK (hin 1 (by omega)) (hin 2 (by omega)) (hin 3 (by omega)) (hin 4 (by omega)) (hin 5 (by omega)) (hin 6 (by omega)) (fun E1 S1 A1 g1 u q5 q6 q7 z1 z2 z3 z4 => xV.tab (M' := mW) rfl rfl rfl rfl rfl mW_ok (tl E1 S1 A1 g1 u q5 q6 q7 z1 z2 z3 z4)))
    · refine xV.tIn (tgt := 1404) rfl (by decide) (by decide) rfl rfl ?_
      exact xV.tab (M' := mW15) rfl rfl rfl rfl rfl mW15_ok (w_punish hO R C hr hK (hin 1 (by omega)) (hin 2 (by omega)) (hin 3 (by omega)) (hin 4 (by omega)) (hin 5 (by omega)) (hin 6 (by omega)) (fun E1 S1 A1 g1 u q5 q6 q7 z1 z2 z3 z4 => xV.tab (M' := mW) rfl rfl rfl rfl rfl mW_ok (tl E1 S1 A1 g1 u q5 q6 q7 z1 z2 z3 z4)))
    · refine xV.tIn (tgt := 1460) rfl (by decide) (by decide) rfl rfl ?_
      exact xV.tab (M' := mW16) rfl rfl rfl rfl rfl mW16_ok (w_claim hO R C hr hK (hin 1 (by omega)) (hin 2 (by omega)) (hin 3 (by omega)) (hin 4 (by omega)) (hin 5 (by omega)) (hin 6 (by omega)) (fun E1 S1 A1 g1 u q5 q6 q7 z1 z2 z3 z4 => xV.tab (M' := mW) rfl rfl rfl rfl rfl mW_ok (tl E1 S1 A1 g1 u q5 q6 q7 z1 z2 z3 z4)))
    · refine xV.tIn (tgt := 1572) rfl (by decide) (by decide) rfl rfl ?_
      exact xV.tab (M' := mW17) rfl rfl rfl rfl rfl mW17_ok (w_takeBack hO R C hr hK (hin 1 (by omega)) (hin 2 (by omega)) (hin 3 (by omega)) (hin 4 (by omega)) (hin 5 (by omega)) (hin 6 (by omega)) (fun E1 S1 A1 g1 u q5 q6 q7 z1 z2 z3 z4 => xV.tab (M' := mW) rfl rfl rfl rfl rfl mW_ok (tl E1 S1 A1 g1 u q5 q6 q7 z1 z2 z3 z4)))
    · refine xV.tIn (tgt := 1640) rfl (by decide) (by decide) rfl rfl ?_
      exact xV.tab (M' := mW18) rfl rfl rfl rfl rfl mW18_ok (w_settle hO R C hr hK (hin 1 (by omega)) (hin 2 (by omega)) (hin 3 (by omega)) (hin 4 (by omega)) (hin 5 (by omega)) (hin 6 (by omega)) (fun E1 S1 A1 g1 u q5 q6 q7 z1 z2 z3 z4 => xV.tab (M' := mW) rfl rfl rfl rfl rfl mW_ok (tl E1 S1 A1 g1 u q5 q6 q7 z1 z2 z3 z4)))
    · refine xV.tIn (tgt := 1696) rfl (by decide) (by decide) rfl rfl ?_
      exact xV.tab (M' := mW19) rfl rfl rfl rfl rfl mW19_ok (w_watch hO R C hr hK (hin 1 (by omega)) (hin 2 (by omega)) (hin 3 (by omega)) (hin 4 (by omega)) (hin 5 (by omega)) (hin 6 (by omega)) (fun E1 S1 A1 g1 u q5 q6 q7 z1 z2 z3 z4 => xV.tab (M' := mW) rfl rfl rfl rfl rfl mW_ok (tl E1 S1 A1 g1 u q5 q6 q7 z1 z2 z3 z4)))
    · refine xV.tIn (tgt := 1760) rfl (by decide) (by decide) rfl rfl ?_
      exact xV.tab (M' := mW20) rfl rfl rfl rfl rfl mW20_ok (w_grow hO R C hr hK (hin 1 (by omega)) (hin 2 (by omega)) (hin 3 (by omega)) (hin 4 (by omega)) (hin 5 (by omega)) (hin 6 (by omega)) (fun E1 S1 A1 g1 u q5 q6 q7 z1 z2 z3 z4 => xV.tab (M' := mW) rfl rfl rfl rfl rfl mW_ok (tl E1 S1 A1 g1 u q5 q6 q7 z1 z2 z3 z4)))
    · refine xV.tIn (tgt := 1816) rfl (by decide) (by decide) rfl rfl ?_
      exact xV.tab (M' := mW21) rfl rfl rfl rfl rfl mW21_ok (w_height hO R C hr hK (hin 1 (by omega)) (hin 2 (by omega)) (hin 3 (by omega)) (hin 4 (by omega)) (hin 5 (by omega)) (hin 6 (by omega)) (fun E1 S1 A1 g1 u q5 q6 q7 z1 z2 z3 z4 => xV.tab (M' := mW) rfl rfl rfl rfl rfl mW_ok (tl E1 S1 A1 g1 u q5 q6 q7 z1 z2 z3 z4)))
    · refine xV.tIn (tgt := 1829) rfl (by decide) (by decide) rfl rfl ?_
      exact xV.tab (M' := mW22) rfl rfl rfl rfl rfl mW22_ok (w_coins hO R C hr hK (hin 1 (by omega)) (hin 2 (by omega)) (hin 3 (by omega)) (hin 4 (by omega)) (hin 5 (by omega)) (hin 6 (by omega)) (fun E1 S1 A1 g1 u q5 q6 q7 z1 z2 z3 z4 => xV.tab (M' := mW) rfl rfl rfl rfl rfl mW_ok (tl E1 S1 A1 g1 u q5 q6 q7 z1 z2 z3 z4)))
    · refine xV.tIn (tgt := 1885) rfl (by decide) (by decide) rfl rfl ?_
      exact xV.tab (M' := mW23) rfl rfl rfl rfl rfl mW23_ok (w_channels hO R C hr hK (hin 1 (by omega)) (hin 2 (by omega)) (hin 3 (by omega)) (hin 4 (by omega)) (hin 5 (by omega)) (hin 6 (by omega)) (fun E1 S1 A1 g1 u q5 q6 q7 z1 z2 z3 z4 => xV.tab (M' := mW) rfl rfl rfl rfl rfl mW_ok (tl E1 S1 A1 g1 u q5 q6 q7 z1 z2 z3 z4)))
    · refine xV.tIn (tgt := 1898) rfl (by decide) (by decide) rfl rfl ?_
      exact xV.tab (M' := mW24) rfl rfl rfl rfl rfl mW24_ok (w_channel hO R C hr hK (hin 1 (by omega)) (hin 2 (by omega)) (hin 3 (by omega)) (hin 4 (by omega)) (hin 5 (by omega)) (hin 6 (by omega)) (fun E1 S1 A1 g1 u q5 q6 q7 z1 z2 z3 z4 => xV.tab (M' := mW) rfl rfl rfl rfl rfl mW_ok (tl E1 S1 A1 g1 u q5 q6 q7 z1 z2 z3 z4)))
    · refine xV.tIn (tgt := 1966) rfl (by decide) (by decide) rfl rfl ?_
      exact xV.tab (M' := mW25) rfl rfl rfl rfl rfl mW25_ok (w_state hO R C hr hK (hin 1 (by omega)) (hin 2 (by omega)) (hin 3 (by omega)) (hin 4 (by omega)) (hin 5 (by omega)) (hin 6 (by omega)) (fun E1 S1 A1 g1 u q5 q6 q7 z1 z2 z3 z4 => xV.tab (M' := mW) rfl rfl rfl rfl rfl mW_ok (tl E1 S1 A1 g1 u q5 q6 q7 z1 z2 z3 z4)))
    · refine xV.tIn (tgt := 2046) rfl (by decide) (by decide) rfl rfl ?_
      exact xV.tab (M' := mW26) rfl rfl rfl rfl rfl mW26_ok (w_made hO R C hr hK (hin 1 (by omega)) (hin 2 (by omega)) (hin 3 (by omega)) (hin 4 (by omega)) (hin 5 (by omega)) (hin 6 (by omega)) (fun E1 S1 A1 g1 u q5 q6 q7 z1 z2 z3 z4 => xV.tab (M' := mW) rfl rfl rfl rfl rfl mW_ok (tl E1 S1 A1 g1 u q5 q6 q7 z1 z2 z3 z4)))
theorem w_start {h : XH} (hs : K0 sc = some (.inl (true, .int, n, .inl f))) (hn : n ≤ 3584) (hd : kDc K0 (D.1 1000)) (hK0 : ∀ q c, K0 q = some c → xget h q = some c) (hz1 : h.2.1 = 0) (hz2 : h.2.2.1 = 0) : xV D N0 mW (d + 21) 0 (xargs 8 [.ref sc]) [] h (fun o _ => o = .returned (some (.int 1))) := by
  refine xV.wf (fun wf0 => ?_)
  have k0 : ∀ q c, K0 q = some c → q < h.1 := fun q c hq => wf0 q c (hK0 q c hq)
  refine xV.new xcl_ok (ci := 0) rfl rfl n_mW_8 (by rw [hz1]; decide) (by rw [hz2]; decide) ?_
  refine xV.wf (fun wf1 => ?_)
  refine xV.step rfl ?_
  refine xV.callI (n := 0) rfl rfl g_mW_99 mN_init_ok (Nat.le_of_ble_eq_true rfl) (Nat.le_of_ble_eq_true rfl) (c_N_init (d := d + 16) (K := K0) new_get (Nat.lt_succ_self _) (fun q c hq => ⟨?_, ?_⟩) hd wf1 ?_ ?_) (fun v u hz => ?_) (fun a u hz => by cases hz.1)
  · rw [xnew_ne (by have := k0 q c hq; omega)]
    exact hK0 q c hq
  · have := k0 q c hq
    omega
  · show h.2.1 + 1 + 18 ≤ xCmax
    rw [hz1]
    decide
  · show h.2.2.1 + _ + 125 ≤ xSmax
    rw [hz2]
    decide
  obtain ⟨ev, E, e0, R, hM⟩ := hz
  cases ev
  have hM1 : u.2.1 ≤ h.2.1 + 1 + 18 := hM.1
  have hM2 : u.2.2.1 ≤ h.2.2.1 + 11 + 125 := hM.2
  rw [hz1] at hM1
  rw [hz2] at hM2
  refine xV.wf (fun wf2 => ?_)
  refine xV.step rfl ?_
  show xV D N0 mW (d + 21) 8 [some (.ref sc), some (.ref h.1), none, none, none, none, none, none] [] u _
  have cm : xCmax = 601024 := rfl
  have sm : xSmax = 7293034 := rfl
  refine xV.new xcl_ok (ci := 7) rfl rfl n_mW_100 (by omega) (by show u.2.2.1 + 48 ≤ xSmax; omega) ?_
  refine xV.step rfl ?_
  refine xV.cI (n := 0) rfl rfl g_mW_102 mM_init_ok (Nat.le_of_ble_eq_true rfl) (Nat.le_of_ble_eq_true rfl) (c_M_init (d := d + 19) ⟨rfl, by show u.2.1 + 1 + 41 ≤ xCmax; omega, by show u.2.2.1 + 48 + 4400 ≤ xSmax; omega⟩ new_get) ?_
  refine xV.step rfl ?_
  show xV D N0 mW (d + 21) 16 [some (.ref sc), some (.ref h.1), some (.ref u.1), none, none, none, none, none] [] _ _
  refine xV.step rfl ?_
  have ms : msum 41 ≤ 4400 := by decide +kernel
  refine xV.nwJ (N := 1) rfl rfl (by omega) (by show u.2.1 + 1 + 41 + 1 ≤ xCmax; omega) (by show u.2.2.1 + 48 + msum 41 + 1 ≤ xSmax; omega) ?_
  refine xV.step rfl ?_
  show xV D N0 mW (d + 21) 20 [some (.ref sc), some (.ref h.1), some (.ref u.1), some (.ref (u.1 + 1 + 41)), none, none, none, none] [] _ _
  refine xV.step rfl ?_
  refine xV.step rfl ?_
  show xV D N0 mW (d + 21) 23 [some (.ref sc), some (.ref h.1), some (.ref u.1), some (.ref (u.1 + 1 + 41)), some (.int (nI (7 * 0))), none, none, none] [] _ _
  have ku : ∀ q c, K0 q = some c → q < u.1 := fun q c hq => wf2 q c (R.2.2.1 q c hq).1
  have eu : ∀ r, kV cS0.2.2.2 r → E r < u.1 := fun r hr => wf2 _ _ (R.1 r hr)
  obtain ⟨g0, hg0⟩ := id hd
  have hdc := ku _ _ hg0
  have hsc := ku _ _ hs
  have hO : lO u.1 (u.1 + 1 + 41) (D.1 1000) := ⟨by omega, by omega, by omega⟩
  have lk0 : ∀ (A : MS) (g : Nat → Int64) q, q < u.1 → lKm u.1 A (u.1 + 1 + 41) g K0 q = K0 q := fun A g q hq => by
    unfold lKm
    rw [if_neg (by omega), if_neg (by omega)]
  have old : ∀ q, q < u.1 → xget (xnew (hm u.1 mInit (u.1 + 1 + 41, u.2.1 + 1 + 41, u.2.2.1 + 48 + msum 41, fun q => if q = u.1 then some (.inr (7, xdf 7)) else u.2.2.2 q)) (.inl (false, .long, 1, .inr (.inl fun _ => 0))) 1) q = xget u q := fun q hq => by
    rw [xnew_ne (by show q ≠ u.1 + 1 + 41; omega)]
    unfold xget hm
    simp only
    rw [if_neg (by omega), if_neg (by omega)]
  have R' : Rep E (D.1 1000) cS0 (lKm u.1 mInit (u.1 + 1 + 41) (fun _ => 0) K0) (xnew (hm u.1 mInit (u.1 + 1 + 41, u.2.1 + 1 + 41, u.2.2.1 + 48 + msum 41, fun q => if q = u.1 then some (.inr (7, xdf 7)) else u.2.2.2 q)) (.inl (false, .long, 1, .inr (.inl fun _ => 0))) 1) := by
    refine ⟨fun r hr => by rw [old _ (eu r hr)]; exact R.1 r hr, R.2.1, fun q c hq => ?_, ⟨g0, by rw [lk0 _ _ _ hdc]; exact hg0⟩, R.2.2.2.2⟩
    by_cases e1 : u.1 ≤ q ∧ q ≤ u.1 + 41
    · refine ⟨?_, fun r hr z => by have := eu r hr; omega⟩
      rw [xnew_ne (by show q ≠ u.1 + 1 + 41; omega)]
      unfold lKm at hq
      rw [if_pos e1] at hq
      rw [← hq]
      unfold xget hm
      simp only
      rw [if_pos e1]
    · by_cases e2 : q = u.1 + 1 + 41
      · refine ⟨?_, fun r hr z => by have := eu r hr; omega⟩
        subst e2
        rw [lK_o hO] at hq
        rw [← hq]
        exact new_get
      · have hq' : K0 q = some c := by
          unfold lKm at hq
          rw [if_neg e1, if_neg e2] at hq
          exact hq
        rw [old q (ku q c hq')]
        exact R.2.2.1 q c hq'
  exact w_loop hO (fun A g => by rw [lk0 A g _ hsc]; exact hs) hn 512 0 E cS0 mInit (fun _ => 0) _ none none none (by omega) (by omega) e0 R' p_start (by show u.2.1 + 1 + 41 + 1 + 7 * 512 ≤ xCmax; omega) (by show u.2.2.1 + 48 + msum 41 + 1 + 216 * 512 ≤ xSmax; omega)
end X99r
