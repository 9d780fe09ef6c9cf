/- Part 99j: class and model called one after the other by the law: route, pay, step. -/
section X99j
variable {D : va_G} {N0 d : Nat} {E : RO → Nat} {m out : Nat} {S : CS} {A : MS} {g : Nat → Int64} {K0 : Nat → Option XC} {h : XH}
theorem o_route {f t a : Int32} (hO : lO m out (D.1 1000)) (R : Rep E (D.1 1000) S (lKm m A out g K0) h) (C : Cpl S A) (hr : h.2.1 + 7 ≤ xCmax ∧ h.2.2.1 + 216 ≤ xSmax) : ∃ RX : Int32 → CS → Int64 → Prop, xV D N0 mL_route (d + 20) 0 (xargs 6 [.ref (E (0, 0, 0)), .int f, .int t, .int a, .ref out]) [] h (lP1 D E A m out K0 h RX) ∧ ∀ u k' S' y, RX k' S' y → xV D N0 mM_route (d + 20) 0 (xargs 4 [.ref m, .int f, .int t, .int a]) [] (hm m A u) (lP2 m u S' y k' wI) := by
  have hr0 : xrm h := ⟨by have := hr.1; omega, by have := hr.2; omega⟩
  have hci : ∀ ci, eEnds f t a = some ci → ci = 8 ∨ ci = 9 := by
    intro ci hz
    unfold eEnds at hz
    (repeat' split at hz) <;> (cases hz <;> decide)
  have hcl : ∀ ci, eEnds f t a = some ci → lco [8, 9] ci ≠ 0 := fun ci hz => by
    rcases hci ci hz with rfl | rfl <;> decide
  refine ⟨lR S [8, 9] (eEnds f t a) (fun S' y => cSame S S' ∧ bestB S' (cres S f t a) ∧ y = (rAns (cres S f t a)).toInt64), ?_, fun u k' S' y hR => ?_⟩
  · refine lcl_I hO R (l_route R.net (c_N_route (d := d + 1) R hr0 C.srOK) (fun o u hq => ?_) hci) (fun o u hq => ?_)
    · obtain ⟨q1, S2, q2, q3, q4, q5⟩ := hq
      exact ⟨_, q1, q3.outg hO⟩
    · obtain ⟨q1, S2, q2, q3, q4, q5⟩ := hq
      exact ⟨_, E, S2, q1, rfl, q3, q5.mk, q2, q4, rfl⟩
  · refine lmo (c_M_route (d := d + 16) C.sOK) (fun o w hz => ?_) (ends_eq f t a) hcl C hR
    rcases hz with ⟨z1, z2, z3⟩ | ⟨z1, A2, z2, z3, z4, z5⟩
    · exact Or.inl ⟨z1, _, z2, ⟨_, _, rfl, rfl⟩, z3⟩
    · refine Or.inr ⟨z1, _, A2, z4, z5, z2.1 0 (by decide) (by decide), ⟨_, _, rfl, rfl⟩, fun hc S'' y'' hP => ?_⟩
      obtain ⟨-, n2, -, n4⟩ := ends_of hc
      have e := res_eq (C.F0 0) (fr := f) n2 n4
      obtain ⟨p1, p2, p3⟩ := hP
      rw [e] at p2 p3
      exact ⟨(C.F0 0).rout p1 z2 p2 z3, _, rfl, p3⟩
theorem o_pay {f t a dl : Int32} {lo : Int64} (hO : lO m out (D.1 1000)) (R : Rep E (D.1 1000) S (lKm m A out g K0) h) (C : Cpl S A) (hr : h.2.1 + 7 ≤ xCmax ∧ h.2.2.1 + 216 ≤ xSmax) : ∃ RX : Int32 → CS → Int64 → Prop, xV D N0 mL_pay (d + 20) 0 (xargs 9 [.ref (E (0, 0, 0)), .int f, .int t, .int a, .long lo, .int dl, .ref out]) [] h (lP1 D E A m out K0 h RX) ∧ ∀ u k' S' y, RX k' S' y → xV D N0 mM_pay (d + 20) 0 (xargs 15 [.ref m, .int f, .int t, .int a, .long lo, .int dl]) [] (hm m A u) (lP2 m u S' y k' wI) := by
  have hci : ∀ ci, ePayC S f t a dl = some ci → ci = 8 ∨ ci = 9 ∨ ci = 10 := by
    intro ci hz
    unfold ePayC at hz
    cases he : eEnds f t a with
    | some c' =>
      rw [he] at hz
      cases hz
      unfold eEnds at he
      (repeat' split at he) <;> (cases he <;> decide)
    | none =>
      rw [he] at hz
      simp only at hz
      (repeat' split at hz) <;> (cases hz <;> decide)
  have hcl : ∀ ci, ePayC S f t a dl = some ci → lco [8, 9, 10] ci ≠ 0 := fun ci hz => by
    rcases hci ci hz with rfl | rfl | rfl <;> decide
  refine ⟨lR S [8, 9, 10] (ePayC S f t a dl) (fun S' y => ∃ S2, cSame S S2 ∧ bestB S2 (cres S f t a) ∧ ((cres S f t a = [] ∧ S' = S2 ∧ y = (-1 : Int32).toInt64) ∨ (cres S f t a ≠ [] ∧ (∃ c0 mo, S' = czl (cpy0 S2 (S.2.2.2 (10, 0, 0) 0) (cres S f t a).length (ck t) lo dl) (10, 0, 0) (S.2.2.2 (10, 0, 0) 0 + 1) c0 mo) ∧ y = (nI (kP S)).toInt64))), ?_, fun u k' S' y hR => ?_⟩
  · refine lcl_I hO R (l_pay R.net (c_N_pay (d := d + 1) (tn := ck t) R ⟨by have := hr.1; omega, by have := hr.2; omega⟩ C.srOK C.2.2.2.2.1.2.1 (fun z => (nd_of z).1)) (fun o u hq => ?_) hci) (fun o u hq => ?_)
    · obtain ⟨S2, q1, q2, ⟨q3, q4, q5, q6⟩ | ⟨q3, q4, E', c0, mo, q5, q6, q7⟩⟩ := hq
      · exact ⟨_, q4, q5.outg hO⟩
      · exact ⟨_, q4, q6.outg hO⟩
    · obtain ⟨S2, q1, q2, ⟨q3, q4, q5, q6⟩ | ⟨q3, q4, E', c0, mo, q5, q6, q7⟩⟩ := hq
      · exact ⟨_, E, S2, q4, rfl, q5, q6.up (by omega) (by omega), S2, q1, q2, Or.inl ⟨q3, rfl, rfl⟩⟩
      · exact ⟨_, E', _, q4, q5, q6, q7.up (by omega) (by omega), S2, q1, q2, Or.inr ⟨q3, ⟨c0, mo, rfl⟩, rfl⟩⟩
  · refine lmo (c_M_pay (d := d + 16) C.sOK C.2.2.2.2.1.1 C.2.2.2.2.1.2.1) (fun o w hz => ?_) (p_pay C) hcl C hR
    rcases hz with ⟨z1, z2, z3⟩ | ⟨z1, A2, z2, z3, z4⟩
    · exact Or.inl ⟨z1, _, z2, ⟨_, _, rfl, rfl⟩, z3⟩
    · have key : ePayC S f t a dl = none → cres S f t a = sres (mF A 0 0) (fun i => kw S i 5) (kC S) f t a ∧ amt1 S (cres S f t a) ∧ kP S < 16 ∧ ck t < 6 ∧ t = nI (ck t) := fun hc => by
        obtain ⟨h1, h2⟩ := pay_of hc
        obtain ⟨n1, n2, n3, n4⟩ := ends_of h1
        have ha : (1 : Int) ≤ a.toInt := Int32.le_iff_toInt_le.mp (of_decide_eq_true n3).2.1
        exact ⟨res_eq (C.F0 0) n2 n4, amt1_res C n2 ha, h2, (nd_of n2).2, (nd_of n2).1⟩
      rcases z4 with ⟨z5, z6, z7⟩ | ⟨z5, z6, z7⟩
      · refine Or.inr ⟨z1, _, A2, z6, z7, z2.1 0 (by decide) (by decide), ⟨_, _, rfl, rfl⟩, fun hc S'' y'' hP => ?_⟩
        obtain ⟨e, -, -, -, -⟩ := key hc
        rw [e] at hP
        obtain ⟨S2, p1, p2, ⟨p3, p4, p5⟩ | ⟨p3, p4, p5⟩⟩ := hP
        · subst p4
          exact ⟨(C.F0 0).rout p1 z2 p2 z3, _, rfl, p5⟩
        · exact absurd z5 p3
      · refine Or.inr ⟨z1, _, _, z6, z7, ?_, ⟨_, _, rfl, rfl⟩, fun hc S'' y'' hP => ?_⟩
        · rw [(mpay_ak A2 _ _ _ _ _).1 0 (by decide)]
          exact z2.1 0 (by decide) (by decide)
        · obtain ⟨e, e2, e3, e4, e5⟩ := key hc
          rw [e] at hP e2
          obtain ⟨S2, p1, p2, ⟨p3, p4, p5⟩ | ⟨p3, ⟨c0, mo, p4⟩, p5⟩⟩ := hP
          · exact absurd p3 z5
          · subst p4
            have C2 := (C.F0 0).rout p1 z2 p2 z3
            have hP2 : kP S2 = kP S := by
              unfold kP
              rw [p1.2]
            have am2 : amt1 S2 (sres (mF A 0 0) (fun i => kw S i 5) (kC S) f t a) := fun x hx => by
              obtain ⟨k1, k2, k3⟩ := e2 x hx
              refine ⟨by unfold kC; rw [p1.2]; exact k1, ?_, k3⟩
              unfold kw
              rw [(p1.1 (21, x.1, 0) (Or.inr (by show 18 < 21; omega))).2.2]
              exact k2
            have F := C2.payn (lo := lo) (dl := dl) (tn := ck t) (by omega) p2 am2 e4 c0 mo
            rw [← e5] at F
            unfold cpyn at F
            rw [hP2] at F
            exact ⟨F, _, rfl, p5⟩
end X99j
