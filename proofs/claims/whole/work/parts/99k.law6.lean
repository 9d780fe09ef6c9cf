/- Part 99k: class and model called one after the other by the law: step. -/
theorem bback_0 (A : MS) (p : Nat) : (bback A p).1 0 = A.1 0 := rfl
theorem bend_0 (A : MS) (p c l q K : Nat) : (bend A p c l q K).1 0 = A.1 0 := by
  unfold bend
  split
  · unfold mkeep
    rw [(mlearn_ak _ _ _ _).1 0 (by decide)]
    rfl
  · rfl
section X99k
variable {D : va_G} {N0 d : Nat} {E : RO → Nat} {m out : Nat} {S : CS} {A : MS} {g : Nat → Int64} {K0 : Nat → Option XC} {h : XH}
theorem o_step {n : Int32} (hO : lO m out (D.1 1000)) (R : Rep E (D.1 1000) S (lKm m A out g K0) h) (C : Cpl S A) (hr : h.2.1 + 7 ≤ xCmax ∧ h.2.2.1 + 216 ≤ xSmax) : ∃ RX : Int32 → CS → Int64 → Prop, xV D N0 mL_step (d + 20) 0 (xargs 4 [.ref (E (0, 0, 0)), .int n, .ref out]) [] h (lP1 D E A m out K0 h RX) ∧ ∀ u k' S' y, RX k' S' y → xV D N0 mM_step (d + 20) 0 (xargs 2 [.ref m, .int n]) [] (hm m A u) (lP2 m u S' y k' wI) := by
  have hr0 : xrm h := ⟨by have := hr.1; omega, by have := hr.2; omega⟩
  have hi8 := isp_eq C.2.2.2.2.1 n
  cases hp : pAt S n with
  | false =>
    rw [hp] at hi8
    refine ⟨lR S [8, 10] (some 8) (fun _ _ => False), ?_, fun u k' S' y hR => ?_⟩
    · refine lcl_I hO R (l_step (Q0 := fun _ _ => False) (c := some 8) R.net (c_N_step_no (d := d + 10) (p := 0) R hr0 (fun z => by rw [hp] at z; cases z) (fun _ => ⟨rfl, rfl⟩) (fun z => by rw [hp] at z; cases z) (fun z => by rw [hp] at z; cases z)) (fun o u hq => hq.elim) (fun ci hz => by cases hz; exact Or.inl rfl)) (fun o u hq => hq.elim)
    · rcases hR with ⟨ci, hc, rfl, rfl⟩ | ⟨hc, -⟩
      · cases hc
        have ht : tStep A n 0 = 1 := by
          unfold tStep
          rw [hi8, if_neg (by decide)]
        refine c_M_step (d := d + 16) (j := 0) (fun z => by rw [hi8] at z; cases z) (fun _ => ?_) (fun z => by rw [hi8] at z; cases z) (fun z => by rw [hi8] at z; cases z)
        rw [ht]
        exact ⟨_, mF A 0 1, rfl, rfl, rfl, C.F0 1, ⟨_, _, rfl, rfl⟩, fun z => absurd z (by decide)⟩
      · cases hc
  | true =>
    obtain ⟨pn, plt⟩ := C.pN hp
    rw [hp] at hi8
    have hpM := C.pM hi8
    have plt' : ck n < kP S := plt
    obtain ⟨⟨a1, a2, a3, a4, a5, a6, a7, a8⟩, ⟨b1, b2, b3, b4⟩, b5, b6, b7⟩ := C.2.2.2.2.1.2.2.1 _ plt'
    have tS : tStep A n (ck n) = if S.1 (27, ck n, 0) 8 = 3 then 2 else 0 := by
      unfold tStep
      rw [if_pos hi8, a1]
    by_cases h3 : S.1 (27, ck n, 0) 8 = 3
    · refine ⟨lR S [8, 10] (some 10) (fun _ _ => False), ?_, fun u k' S' y hR => ?_⟩
      · refine lcl_I hO R (l_step (Q0 := fun _ _ => False) (c := some 10) R.net (c_N_step_no (d := d + 10) (p := ck n) R hr0 (fun _ => ⟨pn, plt⟩) (fun z => by rw [hp] at z; cases z) (fun _ _ => ⟨rfl, rfl⟩) (fun _ z => absurd h3 z)) (fun o u hq => hq.elim) (fun ci hz => by cases hz; exact Or.inr rfl)) (fun o u hq => hq.elim)
      · rcases hR with ⟨ci, hc, rfl, rfl⟩ | ⟨hc, -⟩
        · cases hc
          rw [if_pos h3] at tS
          refine c_M_step (d := d + 16) (j := ck n) (fun _ => hpM) (fun _ => ?_) (fun _ z => by rw [tS] at z; exact absurd z (by decide)) (fun _ z => by rw [tS] at z; exact absurd z (by decide))
          rw [tS]
          exact ⟨_, mF A 0 2, rfl, rfl, rfl, C.F0 2, ⟨_, _, rfl, rfl⟩, fun z => absurd z (by decide)⟩
        · cases hc
    · rw [if_neg h3] at tS
      have no : ∀ {Q : Outcome → XH → Prop}, xV D N0 mN_step (d + 19) 22 [some (.ref (E (0, 0, 0))), some (.int n), some (.ref (E (27, ck n, 0)))] [] h Q → xV D N0 mN_step (d + 19) 0 (xargs 3 [.ref (E (0, 0, 0)), .int n]) [] h Q := fun q => c_N_step_no (d := d + 10) (p := ck n) R hr0 (fun _ => ⟨pn, plt⟩) (fun z => by rw [hp] at z; cases z) (fun _ z => absurd z h3) (fun _ _ => q)
      by_cases h0 : S.1 (27, ck n, 0) 8 = 0
      · have mo : ∀ {u : XH} {Q : Outcome → XH → Prop} {k c l s q : Nat}, A.2.1 31 (ck n) = nI k → (A.2.1 31 (ck n) ≠ A.2.1 34 (ck n) → k < 5 ∧ A.2.1 37 (5 * ck n + k) = nI c ∧ c < 8 ∧ A.2.1 9 c = nI l ∧ l < 64 ∧ mside A c (A.2.1 41 (5 * ck n + k)) = nI s ∧ s < 2 ∧ A.2.1 13 c = nI q ∧ q < 64) → Q (.returned (some (.int (mfw (mF A 0 0) (ck n) k c l s q (S.2.2.1 (6, 0, 0) 0)).1))) (hm m (mfw (mF A 0 0) (ck n) k c l s q (S.2.2.1 (6, 0, 0) 0)).2 u) → xV D N0 mM_step (d + 20) 0 (xargs 2 [.ref m, .int n]) [] (hm m A u) Q := by
          intro u Q k c l s q hk H hq
          refine c_M_step (d := d + 16) (j := ck n) (fun _ => hpM) (fun z => absurd tS z) (fun _ _ _ => ?_) (fun _ _ z => absurd (a1.trans h0) z)
          refine xV.mono (fun o w hz => ?_) (c_M_forward (A := mF A 0 0) (d := d + 16) (p := ck n) (k := k) (c := c) (l := l) (s := s) (q := q) (K := S.2.2.1 (6, 0, 0) 0) hpM.2 hk C.2.1.1 C.2.1.2.2.2.1 H)
          obtain ⟨rfl, rfl⟩ := hz
          exact ⟨⟨_, rfl⟩, hq⟩
        rcases Nat.lt_or_ge (S.2.2.1 (27, ck n, 0) 10) (S.2.2.2 (27, ck n, 0) 0) with hl | hl
        · obtain ⟨c, v, z1, z2, z3, z4, z5, z6, z7, z8, z9, z10⟩ := b7 _ hl
          have cc := C.2.2.1.2.2.1 _ z1
          have hC8 := C.2.2.1.2.1
          obtain ⟨r, r1, r2, r3, r4, r5, r6⟩ := cc.1.r (n := nI v) (by
            rcases z2 with z | z
            · exact Or.inl (by rw [z])
            · exact Or.inr (by rw [z]))
          have hv6 : v < 6 := by
            rcases z2 with z | z
            · rw [z]
              exact cc.1.two.1
            · rw [z]
              exact cc.1.two.2
          have hvr : v = kw S c r := by
            rw [← r3]
            exact (xn_clamp (by omega)).symm
          obtain ⟨f1, f2, f3⟩ := p_fwd C plt' h0 rfl hl z3 z1 z5 r1 hvr
          have hci : ∀ ci, eFwd S (ck n) (S.2.2.1 (27, ck n, 0) 10) c = some ci → ci = 10 := by
            intro ci hz
            unfold eFwd at hz
            split at hz
            · cases hz
              rfl
            · cases hz
          refine ⟨lR S [8, 10] (eFwd S (ck n) (S.2.2.1 (27, ck n, 0) 10) c) (fun S' y => y = (S'.1 (27, ck n, 0) 8).toInt64 ∧ ((cfok S (ck n) (S.2.2.1 (27, ck n, 0) 10) c = false ∧ S' = cturn S (ck n) 2) ∨ (cfok S (ck n) (S.2.2.1 (27, ck n, 0) 10) c = true ∧ ∃ c0 mo, S' = cfw1 S (ck n) (S.2.2.1 (27, ck n, 0) 10) c v c0 mo))), ?_, fun u k' S' y hR => ?_⟩
          · refine lcl_I hO R (l_step R.net (no (c_N_step_fwd (d := d + 10) (i := S.2.2.1 (27, ck n, 0) 10) (j := c) (v := v) R ⟨by have := hr.1; omega, by have := hr.2; omega⟩ C.cOK hC8 plt h0 rfl hl b1 ⟨z3, z1⟩ z5 cc.2.1.2.2.2)) (fun o u hq => ?_) (fun ci hz => Or.inr (hci ci hz))) (fun o u hq => ?_)
            · obtain ⟨E', S', q1, q2, q3, q4, q5⟩ := hq
              exact ⟨_, q1, q3.outg hO⟩
            · obtain ⟨E', S', q1, q2, q3, q4, q5⟩ := hq
              exact ⟨_, E', S', q1, q2, q3, q4.up (by omega) (by omega), rfl, q5⟩
          · refine mo (k := S.2.2.1 (27, ck n, 0) 10) (c := c) (l := kw S c 5) (s := r) (q := kn S c) a3 (fun _ => ⟨by omega, z4, by omega, cc.2.1.1, cc.2.1.2.1, by rw [z6]; exact r4, r1, cc.2.1.2.2.1, Nat.lt_of_le_of_lt cc.2.1.2.2.2 cc.2.1.2.1⟩) ?_
            rcases hR with ⟨ci, hc, rfl, rfl⟩ | ⟨hc, rfl, hP⟩
            · have e10 := hci ci hc
              subst e10
              have e := f1 hc
              refine ⟨_, _, rfl, rfl, ?_, ?_, ⟨_, _, rfl, rfl⟩, fun z => absurd z (by decide)⟩
              · rw [e]
                rfl
              · rw [e]
                exact (C.F0 0).F0 2
            · rcases hP with ⟨hy, ⟨k1, rfl⟩ | ⟨k1, c0, mo', rfl⟩⟩
              · obtain ⟨w1, w2, w3⟩ := f2 hc k1
                exact ⟨_, _, rfl, rfl, w3, w1, ⟨_, _, rfl, rfl⟩, fun _ => ⟨_, rfl, by rw [hy, w2]⟩⟩
              · obtain ⟨w1, w2, w3⟩ := f3 hc k1 c0 mo'
                exact ⟨_, _, rfl, rfl, w3, w1, ⟨_, _, rfl, rfl⟩, fun _ => ⟨_, rfl, by rw [hy, w2]⟩⟩
        · obtain ⟨w1, w2, w3⟩ := p_turn (k := S.2.2.1 (27, ck n, 0) 10) (c := 0) (l := 0) (s := 0) (q := 0) C plt' hl
          refine ⟨lR S [8, 10] none (fun S' y => S' = cturn S (ck n) (if cknows S (nI (S.2.2.1 (27, ck n, 0) 0)) (S.2.1 (27, ck n, 0) 0) = true then 1 else 2) ∧ y = ((cturn S (ck n) (if cknows S (nI (S.2.2.1 (27, ck n, 0) 0)) (S.2.1 (27, ck n, 0) 0) = true then 1 else 2)).1 (27, ck n, 0) 8).toInt64), ?_, fun u k' S' y hR => ?_⟩
          · refine lcl_I hO R (l_step (c := none) R.net (no (xV.mono (fun o u hz => hz) (c_N_step_turn (d := d + 10) R C.2.1.2.2.2 plt h0 (by omega) hl))) (fun o u hq => ⟨_, hq.1, hq.2.1.outg hO⟩) (fun ci hz => by cases hz)) (fun o u hq => ⟨_, E, _, hq.1, rfl, hq.2.1, hq.2.2.mk, rfl, rfl⟩)
          · refine mo (k := S.2.2.1 (27, ck n, 0) 10) (c := 0) (l := 0) (s := 0) (q := 0) a3 (fun z => absurd (by rw [a3, a6, show S.2.2.1 (27, ck n, 0) 10 = S.2.2.2 (27, ck n, 0) 0 by omega]) z) ?_
            rcases hR with ⟨ci, hc, -⟩ | ⟨hc, rfl, rfl, rfl⟩
            · cases hc
            · exact ⟨_, _, rfl, rfl, w3, w1, ⟨_, _, rfl, rfl⟩, fun _ => ⟨_, rfl, by rw [w2]⟩⟩
      · have hst : (S.1 (27, ck n, 0) 8 = 1 ∨ S.1 (27, ck n, 0) 8 = 2) ∧ 1 ≤ S.2.2.1 (27, ck n, 0) 11 := by
          rcases b5 with z | z | z
          · exact absurd z h0
          · exact absurd z h3
          · exact z
        obtain ⟨i, hi⟩ : ∃ i, S.2.2.1 (27, ck n, 0) 11 = i + 1 := ⟨S.2.2.1 (27, ck n, 0) 11 - 1, by omega⟩
        have hl : i < S.2.2.2 (27, ck n, 0) 0 := by omega
        obtain ⟨c, v, z1, z2, z3, z4, z5, z6, z7, z8, z9, z10⟩ := b7 _ hl
        obtain ⟨q, u1, u2, u3, u4, u5⟩ := z10 (by omega)
        have cc := C.2.2.1.2.2.1 _ z1
        have hC8 := C.2.2.1.2.1
        have hL := cc.2.1.2.1
        have hN := cc.2.1.2.2.2
        obtain ⟨hk, f1, f2⟩ := p_back C plt' hst.1 hi z3 z1 u2 u1
        have hci : ∀ ci, eBack S (ck n) c q = some ci → ci = 10 := by
          intro ci hz
          unfold eBack at hz
          split at hz
          · cases hz
            rfl
          · cases hz
        refine ⟨lR S [8, 10] (eBack S (ck n) c q) (fun S' y => S' = cback S (ck n) i c q ∧ y = ((if i = 0 then 3 else S.1 (27, ck n, 0) 8) : Int32).toInt64), ?_, fun u k' S' y hR => ?_⟩
        · refine lcl_I hO R (l_step R.net (no (c_N_step_back (d := d + 10) (i := i) (j := c) (q := q) R hr0 C.cOK C.2.1.2.2.2 hC8 plt h0 hi hl b1 ⟨z3, z1⟩ ⟨u2, u1⟩ hk)) (fun o u hq => ⟨_, hq.1, hq.2.1.outg hO⟩) (fun ci hz => Or.inr (hci ci hz))) (fun o u hq => ⟨_, E, _, hq.1, rfl, hq.2.1, hq.2.2.mk, rfl, rfl⟩)
        · refine c_M_step (d := d + 16) (j := ck n) (fun _ => hpM) (fun z => absurd tS z) (fun _ _ z => absurd (a1.symm.trans z) h0) (fun _ _ _ => ?_)
          have hmh : A.2.1 30 (ck n) = 1 → mhas (mF A 0 0) (S.2.2.1 (6, 0, 0) 0) ((mF A 0 0).2.2 16 (64 * c + q)) = true := fun z => by
            have e16 : (mF A 0 0).2.2 16 (64 * c + q) = S.2.1 (26, c, q) 0 := (cc.2.2.2.2.2.1 q u1).2.2.1
            rw [e16, (C.F0 0).2.1.has]
            exact hk (a2.symm.trans z)
          refine xV.mono (fun o w hz => ?_) (c_M_backward (A := mF A 0 0) (d := d + 16) (p := ck n) (b := i) (c := c) (l := kw S c 5) (q := q) (K := S.2.2.1 (6, 0, 0) 0) hpM.2 (a4.trans (by rw [hi])) (by omega) z4 (by omega) cc.2.1.1 hL u3 (by omega) C.2.1.1 C.2.1.2.2.2.1 hmh)
          rcases hR with ⟨ci, hc, rfl, rfl⟩ | ⟨hc, rfl, rfl, rfl⟩
          · have e10 := hci ci hc
            subst e10
            obtain ⟨m1, m2⟩ := f1 hc
            rcases hz with ⟨y1, y2, y3, y4⟩ | ⟨y1, y2, y3, y4⟩ | ⟨y1, y3, y4⟩
            · subst y3 y4
              exact ⟨⟨_, rfl⟩, _, mF (mF A 0 0) 0 2, rfl, rfl, rfl, (C.F0 0).F0 2, ⟨_, _, rfl, rfl⟩, fun z => absurd z (by decide)⟩
            · exact absurd y2 m2
            · exact absurd m1 y1
          · obtain ⟨m1, m2⟩ := f2 hc
            rcases hz with ⟨y1, y2, y3, y4⟩ | ⟨y1, y2, y3, y4⟩ | ⟨y1, y3, y4⟩
            · exact absurd (m1 y1).1 y2
            · subst y3 y4
              obtain ⟨-, k2, k3⟩ := m1 y1
              exact ⟨⟨_, rfl⟩, _, _, rfl, rfl, by rw [bback_0, bend_0]; rfl, k2, ⟨_, _, rfl, rfl⟩, fun _ => ⟨_, rfl, by rw [k3]⟩⟩
            · subst y3 y4
              obtain ⟨k2, k3⟩ := m2 y1
              exact ⟨⟨_, rfl⟩, _, _, rfl, rfl, rfl, k2, ⟨_, _, rfl, rfl⟩, fun _ => ⟨_, rfl, by rw [k3]⟩⟩
end X99k
