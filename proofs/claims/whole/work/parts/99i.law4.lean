/- Part 99i: each operation of class and model, called one after the other by the law; printed by wip/whole/tools/gen99h.py -/
section X99i
variable {D : va_G} {N0 d : Nat} {E : RO → Nat} {m out : Nat} {S : CS} {A : MS} {g : Nat → Int64} {K0 : Nat → Option XC} {h : XH}
theorem o_keep {c : Int32} {k : Int32} {s : Int64} (hO : lO m out (D.1 1000)) (R : Rep E (D.1 1000) S (lKm m A out g K0) h) (C : Cpl S A) (hr : h.2.1 + 7 ≤ xCmax ∧ h.2.2.1 + 216 ≤ xSmax) : ∃ RX : Int32 → CS → Int64 → Prop, xV D N0 mL_keep (d + 20) 0 (xargs 7 [.ref (E (0, 0, 0)), .int c, .int k, .long s, .ref out]) [] h (lP1 D E A m out K0 h RX) ∧ ∀ u k' S' y, RX k' S' y → xV D N0 mM_keep (d + 20) 0 (xargs 9 [.ref m, .int c, .int k, .long s]) [] (hm m A u) (lP2 m u S' y k' wI) := by
  have hr0 : xrm h := ⟨by have := hr.1; omega, by have := hr.2; omega⟩
  have hci : ∀ ci, eKeep S c k s (ck c) (ck k) = some ci → ci = 8 ∨ ci = 9 ∨ ci = 10 := by
    intro ci hz
    unfold eKeep at hz
    (repeat' split at hz) <;> (cases hz <;> decide)
  have hcl : ∀ ci, eKeep S c k s (ck c) (ck k) = some ci → lco [8, 9, 10] ci ≠ 0 := fun ci hz => by
    rcases hci ci hz with rfl | rfl | rfl <;> decide
  refine ⟨lR S [8, 9, 10] (eKeep S c k s (ck c) (ck k)) (fun S' y => S' = ckeep S (ck c) (ck k) s ∧ y = (nI (kw S (ck c) 5 + 1)).toInt64), ?_, fun u k' S' y hR => ?_⟩
  · refine lcl_I hO R (l_keep R.net (c_N_keep (d := d + 10) R hr0 C.cOK C.2.1.2.2.2 C.cN C.kN) (fun o u hq => ⟨_, hq.1, hq.2.1.outg hO⟩) hci) (fun o u hq => ?_)
    exact ⟨_, E, _, hq.1, rfl, hq.2.1, hq.2.2.mk, rfl, rfl⟩
  · refine lmo2 (c_M_keep (d := d + 16) C.2.1.1 C.2.1.2.2.2.1 C.cM2 mbit_lt) ⟨_, _, rfl, rfl⟩ ⟨_, _, rfl, rfl⟩ (mkeep2_0 ..) (fun hc S' y hP => ?_) ((p_keep C).1) hcl C hR
    obtain ⟨rfl, rfl⟩ := hP
    exact ⟨(p_keep C).2 hc, _, rfl, rfl⟩
theorem o_drop {c : Int32} {k : Int32} (hO : lO m out (D.1 1000)) (R : Rep E (D.1 1000) S (lKm m A out g K0) h) (C : Cpl S A) (hr : h.2.1 + 7 ≤ xCmax ∧ h.2.2.1 + 216 ≤ xSmax) : ∃ RX : Int32 → CS → Int64 → Prop, xV D N0 mL_drop (d + 20) 0 (xargs 5 [.ref (E (0, 0, 0)), .int c, .int k, .ref out]) [] h (lP1 D E A m out K0 h RX) ∧ ∀ u k' S' y, RX k' S' y → xV D N0 mM_drop (d + 20) 0 (xargs 4 [.ref m, .int c, .int k]) [] (hm m A u) (lP2 m u S' y k' wI) := by
  have hr0 : xrm h := ⟨by have := hr.1; omega, by have := hr.2; omega⟩
  have hci : ∀ ci, eDrop S c k (ck c) (ck k) = some ci → ci = 8 ∨ ci = 10 := by
    intro ci hz
    unfold eDrop at hz
    (repeat' split at hz) <;> (cases hz <;> decide)
  have hcl : ∀ ci, eDrop S c k (ck c) (ck k) = some ci → lco [8, 10] ci ≠ 0 := fun ci hz => by
    rcases hci ci hz with rfl | rfl <;> decide
  refine ⟨lR S [8, 10] (eDrop S c k (ck c) (ck k)) (fun S' y => S' = cendp S (ck c) (ck k) (nI (kq S (ck c) (ck k) 0)) ∧ y = (nI (kw S (ck c) 5 + 1)).toInt64), ?_, fun u k' S' y hR => ?_⟩
  · refine lcl_I hO R (l_drop R.net (c_N_drop (d := d + 10) R hr0 C.cOK C.cN C.kN) (fun o u hq => ⟨_, hq.1, hq.2.1.outg hO⟩) hci) (fun o u hq => ?_)
    exact ⟨_, E, _, hq.1, rfl, hq.2.1, hq.2.2.mk, rfl, rfl⟩
  · refine lmo2 (c_M_drop (d := d + 17) C.cM2 mbit_lt) ⟨_, _, rfl, rfl⟩ ⟨_, _, rfl, rfl⟩ (rfl) (fun hc S' y hP => ?_) ((p_drop C).1) hcl C hR
    obtain ⟨rfl, rfl⟩ := hP
    exact ⟨(p_drop C).2 hc, _, rfl, rfl⟩
theorem o_open {f : Int32} {s : Int32} {a : Int32} {b : Int32} (hO : lO m out (D.1 1000)) (R : Rep E (D.1 1000) S (lKm m A out g K0) h) (C : Cpl S A) (hr : h.2.1 + 7 ≤ xCmax ∧ h.2.2.1 + 216 ≤ xSmax) : ∃ RX : Int32 → CS → Int64 → Prop, xV D N0 mL_open (d + 20) 0 (xargs 7 [.ref (E (0, 0, 0)), .int f, .int s, .int a, .int b, .ref out]) [] h (lP1 D E A m out K0 h RX) ∧ ∀ u k' S' y, RX k' S' y → xV D N0 mM_open (d + 20) 0 (xargs 6 [.ref m, .int f, .int s, .int a, .int b]) [] (hm m A u) (lP2 m u S' y k' wI) := by
  have hr0 : xrm h := ⟨by have := hr.1; omega, by have := hr.2; omega⟩
  have hci : ∀ ci, eOpenC S f s a b (ck f) (ck s) = some ci → ci = 8 ∨ ci = 9 ∨ ci = 10 := by
    intro ci hz
    unfold eOpenC at hz
    (repeat' split at hz) <;> (cases hz <;> decide)
  have hcl : ∀ ci, eOpenC S f s a b (ck f) (ck s) = some ci → lco [8, 9, 10] ci ≠ 0 := fun ci hz => by
    rcases hci ci hz with rfl | rfl | rfl <;> decide
  refine ⟨lR S [8, 9, 10] (eOpenC S f s a b (ck f) (ck s)) (fun S' y => (∃ c0 mo, S' = czl (cop0 (cop1 S (ck f) (ck s) a b) (S.2.2.2 (9, 0, 0) 0) (ck f) (ck s) a b) (9, 0, 0) (S.2.2.2 (9, 0, 0) 0 + 1) c0 mo) ∧ y = (nI (kC S)).toInt64), ?_, fun u k' S' y hR => ?_⟩
  · refine lcl_I hO R (l_open R.net (c_N_open (d := d + 11) R ⟨by have := hr.1; omega, by have := hr.2; omega⟩ C.2.2.1.2.1 nd_of nd_of) (fun o u hq => by obtain ⟨q1, E', c0, mo, q2, q3, q4⟩ := hq; exact ⟨_, q1, q3.outg hO⟩) hci) (fun o u hq => ?_)
    obtain ⟨q1, E', c0, mo, q2, q3, q4⟩ := hq
    exact ⟨_, E', _, q1, q2, q3, q4.up (by omega) (by omega), ⟨c0, mo, rfl⟩, rfl⟩
  · refine lmo2 (c_M_open (d := d + 18) C.2.2.1.1 C.2.2.1.2.1 nd_of nd_of) ⟨_, _, rfl, rfl⟩ ⟨_, _, rfl, rfl⟩ (rfl) (fun hc S' y hP => ?_) ((p_open C).1) hcl C hR
    obtain ⟨⟨c0, mo, rfl⟩, rfl⟩ := hP
    exact ⟨(p_open C).2 hc c0 mo, _, rfl, rfl⟩
theorem o_fees {n : Int32} {b : Int32} {q : Int32} {e : Int32} (hO : lO m out (D.1 1000)) (R : Rep E (D.1 1000) S (lKm m A out g K0) h) (C : Cpl S A) (hr : h.2.1 + 7 ≤ xCmax ∧ h.2.2.1 + 216 ≤ xSmax) : ∃ RX : Int32 → CS → Int64 → Prop, xV D N0 mL_fees (d + 20) 0 (xargs 6 [.ref (E (0, 0, 0)), .int n, .int b, .int q, .int e]) [] h (lP1 D E A m out K0 h RX) ∧ ∀ u k' S' y, RX k' S' y → xV D N0 mM_fees (d + 20) 0 (xargs 5 [.ref m, .int n, .int b, .int q, .int e]) [] (hm m A u) (lP2 m u S' y k' wV) := by
  have hr0 : xrm h := ⟨by have := hr.1; omega, by have := hr.2; omega⟩
  have hci : ∀ ci, eFees n b q e = some ci → ci = 8 ∨ ci = 9 := by
    intro ci hz
    unfold eFees at hz
    (repeat' split at hz) <;> (cases hz <;> decide)
  have hcl : ∀ ci, eFees n b q e = some ci → lco [8, 9] ci ≠ 0 := fun ci hz => by
    rcases hci ci hz with rfl | rfl <;> decide
  refine ⟨lR S [8, 9] (eFees n b q e) (fun S' y => S' = cfI (cfI (cfI S (2, 0, 0) (ck n) b) (3, 0, 0) (ck n) q) (4, 0, 0) (ck n) e), ?_, fun u k' S' y hR => ?_⟩
  · refine lcl_V R (l_fees R.net (c_N_fees (d := d + 11) R hr0 nd_of) (fun o u hq => hq.1) hci) (fun o u hq => ?_)
    exact ⟨E, _, rfl, hq.2.1, hq.2.2.mk, fun _ => rfl⟩
  · refine lmo2 (c_M_fees (d := d + 18) nd_of) ⟨0, rfl⟩ ⟨0, rfl⟩ (rfl) (fun hc S' y hP => ?_) ((p_fees C).1) hcl C hR
    subst hP
    exact ⟨(p_fees C).2 hc, rfl⟩
theorem o_tell {n : Int32} {s : Int64} (hO : lO m out (D.1 1000)) (R : Rep E (D.1 1000) S (lKm m A out g K0) h) (C : Cpl S A) (hr : h.2.1 + 7 ≤ xCmax ∧ h.2.2.1 + 216 ≤ xSmax) : ∃ RX : Int32 → CS → Int64 → Prop, xV D N0 mL_tell (d + 20) 0 (xargs 6 [.ref (E (0, 0, 0)), .int n, .long s, .ref out]) [] h (lP1 D E A m out K0 h RX) ∧ ∀ u k' S' y, RX k' S' y → xV D N0 mM_tell (d + 20) 0 (xargs 6 [.ref m, .int n, .long s]) [] (hm m A u) (lP2 m u S' y k' wJ) := by
  have hr0 : xrm h := ⟨by have := hr.1; omega, by have := hr.2; omega⟩
  have hci : ∀ ci, eTell S n s = some ci → ci = 8 ∨ ci = 10 := by
    intro ci hz
    unfold eTell at hz
    (repeat' split at hz) <;> (cases hz <;> decide)
  have hcl : ∀ ci, eTell S n s = some ci → lco [8, 10] ci ≠ 0 := fun ci hz => by
    rcases hci ci hz with rfl | rfl <;> decide
  refine ⟨lR S [8, 10] (eTell S n s) (fun S' y => S' = clearn S (lk s) ((1 : Int32) <<< (n &&& 31)) ∧ y = lk s), ?_, fun u k' S' y hR => ?_⟩
  · refine lcl_J hO R (l_tell R.net (c_N_tell (d := d + 11) R hr0 C.2.1.2.2.2) (fun o u hq => ⟨_, hq.1, hq.2.1.outg hO⟩) hci) (fun o u hq => ?_)
    exact ⟨_, E, _, hq.1, rfl, hq.2.1, hq.2.2.mk, rfl, rfl⟩
  · refine lmo2 (c_M_tell (d := d + 18) C.2.1.1 C.2.1.2.2.2.1) ⟨_, rfl⟩ ⟨_, rfl⟩ ((mlearn_ak (mF A 0 0) _ _ _).1 0 (by decide)) (fun hc S' y hP => ?_) ((p_tell C).1) hcl C hR
    obtain ⟨rfl, rfl⟩ := hP
    exact ⟨(p_tell C).2 hc, rfl⟩
theorem o_promise {c : Int32} {n : Int32} {a : Int32} {lo : Int64} {e : Int32} (hO : lO m out (D.1 1000)) (R : Rep E (D.1 1000) S (lKm m A out g K0) h) (C : Cpl S A) (hr : h.2.1 + 7 ≤ xCmax ∧ h.2.2.1 + 216 ≤ xSmax) : ∃ RX : Int32 → CS → Int64 → Prop, xV D N0 mL_promise (d + 20) 0 (xargs 9 [.ref (E (0, 0, 0)), .int c, .int n, .int a, .long lo, .int e, .ref out]) [] h (lP1 D E A m out K0 h RX) ∧ ∀ u k' S' y, RX k' S' y → xV D N0 mM_promise (d + 20) 0 (xargs 8 [.ref m, .int c, .int n, .int a, .long lo, .int e]) [] (hm m A u) (lP2 m u S' y k' wI) := by
  have hr0 : xrm h := ⟨by have := hr.1; omega, by have := hr.2; omega⟩
  have hci : ∀ ci, ePromC S c n a e (ck c) = some ci → ci = 8 ∨ ci = 9 ∨ ci = 10 := by
    intro ci hz
    unfold ePromC at hz
    (repeat' split at hz) <;> (cases hz <;> decide)
  have hcl : ∀ ci, ePromC S c n a e (ck c) = some ci → lco [8, 9, 10] ci ≠ 0 := fun ci hz => by
    rcases hci ci hz with rfl | rfl | rfl <;> decide
  refine ⟨lR S [8, 9, 10] (ePromC S c n a e (ck c)) (fun S' y => (∃ c0 mo, S' = czl (cprm S (ck c) (S.2.2.2 (24, ck c, 0) 0) (ck n) (cpart S (ck c) (ck n)) a lo e) (24, ck c, 0) (S.2.2.2 (24, ck c, 0) 0 + 1) c0 mo) ∧ y = (nI (kn S (ck c))).toInt64), ?_, fun u k' S' y hR => ?_⟩
  · refine lcl_I hO R (l_promise R.net (c_N_promise (d := d + 11) (p := ck n) R C.cOK ⟨by have := hr.1; omega, by have := hr.2; omega⟩ C.cN (fun z => (C.2.2.1.2.2.1 _ (C.cN z).2).2.1.2.2.2) (fun z => (C.2.2.1.2.2.1 _ (C.cN z).2).1.cke)) (fun o u hq => by obtain ⟨q1, E', c0, mo, q2, q3, q4⟩ := hq; exact ⟨_, q1, q3.outg hO⟩) hci) (fun o u hq => ?_)
    obtain ⟨q1, E', c0, mo, q2, q3, q4⟩ := hq
    exact ⟨_, E', _, q1, q2, q3, q4.up (by omega) (by omega), ⟨c0, mo, rfl⟩, rfl⟩
  · refine lmo2 (c_M_promise (d := d + 16) C.cM3) ⟨_, _, rfl, rfl⟩ ⟨_, _, rfl, rfl⟩ (rfl) (fun hc S' y hP => ?_) ((p_prom (lo := lo) C).1) hcl C hR
    obtain ⟨⟨c0, mo, rfl⟩, rfl⟩ := hP
    exact ⟨(p_prom C).2 hc c0 mo, _, rfl, rfl⟩
theorem o_close {c : Int32} (hO : lO m out (D.1 1000)) (R : Rep E (D.1 1000) S (lKm m A out g K0) h) (C : Cpl S A) (hr : h.2.1 + 7 ≤ xCmax ∧ h.2.2.1 + 216 ≤ xSmax) : ∃ RX : Int32 → CS → Int64 → Prop, xV D N0 mL_close (d + 20) 0 (xargs 3 [.ref (E (0, 0, 0)), .int c]) [] h (lP1 D E A m out K0 h RX) ∧ ∀ u k' S' y, RX k' S' y → xV D N0 mM_close (d + 20) 0 (xargs 2 [.ref m, .int c]) [] (hm m A u) (lP2 m u S' y k' wV) := by
  have hr0 : xrm h := ⟨by have := hr.1; omega, by have := hr.2; omega⟩
  have hci : ∀ ci, eClose S c (ck c) = some ci → ci = 8 ∨ ci = 10 := by
    intro ci hz
    unfold eClose at hz
    (repeat' split at hz) <;> (cases hz <;> decide)
  have hcl : ∀ ci, eClose S c (ck c) = some ci → lco [8, 10] ci ≠ 0 := fun ci hz => by
    rcases hci ci hz with rfl | rfl <;> decide
  refine ⟨lR S [8, 10] (eClose S c (ck c)) (fun S' y => S' = cclose S (ck c)), ?_, fun u k' S' y hR => ?_⟩
  · refine lcl_V R (l_close R.net (c_N_close (d := d + 11) R hr0 C.cOK C.cN) (fun o u hq => hq.1) hci) (fun o u hq => ?_)
    exact ⟨E, _, rfl, hq.2.1, hq.2.2.mk, fun _ => rfl⟩
  · refine lmo2 (c_M_close (d := d + 17) C.cM5) ⟨0, rfl⟩ ⟨0, rfl⟩ (rfl) (fun hc S' y hP => ?_) ((p_close C).1) hcl C hR
    subst hP
    exact ⟨(p_close C).2 hc, rfl⟩
theorem o_publish {c : Int32} {n : Int32} {s : Int32} (hO : lO m out (D.1 1000)) (R : Rep E (D.1 1000) S (lKm m A out g K0) h) (C : Cpl S A) (hr : h.2.1 + 7 ≤ xCmax ∧ h.2.2.1 + 216 ≤ xSmax) : ∃ RX : Int32 → CS → Int64 → Prop, xV D N0 mL_publish (d + 20) 0 (xargs 5 [.ref (E (0, 0, 0)), .int c, .int n, .int s]) [] h (lP1 D E A m out K0 h RX) ∧ ∀ u k' S' y, RX k' S' y → xV D N0 mM_publish (d + 20) 0 (xargs 5 [.ref m, .int c, .int n, .int s]) [] (hm m A u) (lP2 m u S' y k' wV) := by
  have hr0 : xrm h := ⟨by have := hr.1; omega, by have := hr.2; omega⟩
  have hci : ∀ ci, ePub S c n s (ck c) = some ci → ci = 8 ∨ ci = 10 := by
    intro ci hz
    unfold ePub at hz
    (repeat' split at hz) <;> (cases hz <;> decide)
  have hcl : ∀ ci, ePub S c n s (ck c) = some ci → lco [8, 10] ci ≠ 0 := fun ci hz => by
    rcases hci ci hz with rfl | rfl <;> decide
  refine ⟨lR S [8, 10] (ePub S c n s (ck c)) (fun S' y => S' = cpub S (ck c) n s), ?_, fun u k' S' y hR => ?_⟩
  · refine lcl_V R (l_publish R.net (c_N_publish (d := d + 11) R hr0 C.cN) (fun o u hq => hq.1) hci) (fun o u hq => ?_)
    exact ⟨E, _, rfl, hq.2.1, hq.2.2.mk, fun _ => rfl⟩
  · refine lmo2 (c_M_publish0 (d := d + 17) C) ⟨0, rfl⟩ ⟨0, rfl⟩ (rfl) (fun hc S' y hP => ?_) ((p_pub C).1) hcl C hR
    subst hP
    exact ⟨(p_pub C).2 hc, rfl⟩
theorem o_punish {c : Int32} (hO : lO m out (D.1 1000)) (R : Rep E (D.1 1000) S (lKm m A out g K0) h) (C : Cpl S A) (hr : h.2.1 + 7 ≤ xCmax ∧ h.2.2.1 + 216 ≤ xSmax) : ∃ RX : Int32 → CS → Int64 → Prop, xV D N0 mL_punish (d + 20) 0 (xargs 4 [.ref (E (0, 0, 0)), .int c, .ref out]) [] h (lP1 D E A m out K0 h RX) ∧ ∀ u k' S' y, RX k' S' y → xV D N0 mM_punish (d + 20) 0 (xargs 2 [.ref m, .int c]) [] (hm m A u) (lP2 m u S' y k' wI) := by
  have hr0 : xrm h := ⟨by have := hr.1; omega, by have := hr.2; omega⟩
  have hci : ∀ ci, ePunC S c (ck c) = some ci → ci = 8 ∨ ci = 10 := by
    intro ci hz
    unfold ePunC at hz
    (repeat' split at hz) <;> (cases hz <;> decide)
  have hcl : ∀ ci, ePunC S c (ck c) = some ci → lco [8, 10] ci ≠ 0 := fun ci hz => by
    rcases hci ci hz with rfl | rfl <;> decide
  refine ⟨lR S [8, 10] (ePunC S c (ck c)) (fun S' y => S' = cpunc S (ck c) ∧ y = ((cpunc S (ck c)).1 (1, 0, 0) (cpv S (ck c))).toInt64), ?_, fun u k' S' y hR => ?_⟩
  · refine lcl_I hO R (l_punish R.net (c_N_punish (d := d + 11) R hr0 C.cOK C.cN) (fun o u hq => ⟨_, hq.1, hq.2.1.outg hO⟩) hci) (fun o u hq => ?_)
    exact ⟨_, E, _, hq.1, rfl, hq.2.1, hq.2.2.mk, rfl, rfl⟩
  · refine lmo2 (c_M_punish (d := d + 16) (o := cpv S (ck c)) C.cM1 C.pnM) ⟨_, _, rfl, rfl⟩ ⟨_, _, rfl, rfl⟩ (rfl) (fun hc S' y hP => ?_) ((p_pun C).1) hcl C hR
    obtain ⟨rfl, rfl⟩ := hP
    have q := ((p_pun C).2 hc).1
    exact ⟨q, _, rfl, by rw [q.1.2.1]⟩
theorem o_claim {c : Int32} {k : Int32} {s : Int64} (hO : lO m out (D.1 1000)) (R : Rep E (D.1 1000) S (lKm m A out g K0) h) (C : Cpl S A) (hr : h.2.1 + 7 ≤ xCmax ∧ h.2.2.1 + 216 ≤ xSmax) : ∃ RX : Int32 → CS → Int64 → Prop, xV D N0 mL_claim (d + 20) 0 (xargs 7 [.ref (E (0, 0, 0)), .int c, .int k, .long s, .ref out]) [] h (lP1 D E A m out K0 h RX) ∧ ∀ u k' S' y, RX k' S' y → xV D N0 mM_claim (d + 20) 0 (xargs 9 [.ref m, .int c, .int k, .long s]) [] (hm m A u) (lP2 m u S' y k' wI) := by
  have hr0 : xrm h := ⟨by have := hr.1; omega, by have := hr.2; omega⟩
  have hci : ∀ ci, eClaim S c k s (ck c) (ck k) = some ci → ci = 8 ∨ ci = 9 ∨ ci = 10 := by
    intro ci hz
    unfold eClaim at hz
    (repeat' split at hz) <;> (cases hz <;> decide)
  have hcl : ∀ ci, eClaim S c k s (ck c) (ck k) = some ci → lco [8, 9, 10] ci ≠ 0 := fun ci hz => by
    rcases hci ci hz with rfl | rfl | rfl <;> decide
  refine ⟨lR S [8, 9, 10] (eClaim S c k s (ck c) (ck k)) (fun S' y => S' = cclaim S (ck c) (ck k) s ∧ y = ((cclaim S (ck c) (ck k) s).1 (1, 0, 0) (kq S (ck c) (ck k) 1)).toInt64), ?_, fun u k' S' y hR => ?_⟩
  · refine lcl_I hO R (l_claim R.net (c_N_claim (d := d + 10) R hr0 C.cOK C.2.1.2.2.2 C.cN C.kN) (fun o u hq => ⟨_, hq.1, hq.2.1.outg hO⟩) hci) (fun o u hq => ?_)
    exact ⟨_, E, _, hq.1, rfl, hq.2.1, hq.2.2.mk, rfl, rfl⟩
  · refine lmo2 (c_M_claim (d := d + 17) (o := kq S (ck c) (ck k) 1) C.2.1.1 C.2.1.2.2.2.1 C.cM1 (fun z => ⟨(C.lfM z).1, (C.lfM z).2.1, (C.lfM z).2.2.2.2.1, (C.lfM z).2.2.2.2.2⟩)) ⟨_, _, rfl, rfl⟩ ⟨_, _, rfl, rfl⟩ ((mgo_0 ..).trans ((mlearn_ak (mF A 0 0) _ _ _).1 0 (by decide))) (fun hc S' y hP => ?_) ((p_claim C).1) hcl C hR
    obtain ⟨rfl, rfl⟩ := hP
    have q := (p_claim C).2 hc
    exact ⟨q, _, rfl, by rw [q.1.2.1]⟩
theorem o_takeBack {c : Int32} {k : Int32} (hO : lO m out (D.1 1000)) (R : Rep E (D.1 1000) S (lKm m A out g K0) h) (C : Cpl S A) (hr : h.2.1 + 7 ≤ xCmax ∧ h.2.2.1 + 216 ≤ xSmax) : ∃ RX : Int32 → CS → Int64 → Prop, xV D N0 mL_takeBack (d + 20) 0 (xargs 5 [.ref (E (0, 0, 0)), .int c, .int k, .ref out]) [] h (lP1 D E A m out K0 h RX) ∧ ∀ u k' S' y, RX k' S' y → xV D N0 mM_takeBack (d + 20) 0 (xargs 5 [.ref m, .int c, .int k]) [] (hm m A u) (lP2 m u S' y k' wI) := by
  have hr0 : xrm h := ⟨by have := hr.1; omega, by have := hr.2; omega⟩
  have hci : ∀ ci, eTake S c k (ck c) (ck k) = some ci → ci = 8 ∨ ci = 10 := by
    intro ci hz
    unfold eTake at hz
    (repeat' split at hz) <;> (cases hz <;> decide)
  have hcl : ∀ ci, eTake S c k (ck c) (ck k) = some ci → lco [8, 10] ci ≠ 0 := fun ci hz => by
    rcases hci ci hz with rfl | rfl <;> decide
  refine ⟨lR S [8, 10] (eTake S c k (ck c) (ck k)) (fun S' y => S' = cpayp S (ck c) (ck k) (kq S (ck c) (ck k) 0) ∧ y = ((cpayp S (ck c) (ck k) (kq S (ck c) (ck k) 0)).1 (1, 0, 0) (kq S (ck c) (ck k) 0)).toInt64), ?_, fun u k' S' y hR => ?_⟩
  · refine lcl_I hO R (l_takeBack R.net (c_N_takeBack (d := d + 10) R hr0 C.cOK C.cN C.kN) (fun o u hq => ⟨_, hq.1, hq.2.1.outg hO⟩) hci) (fun o u hq => ?_)
    exact ⟨_, E, _, hq.1, rfl, hq.2.1, hq.2.2.mk, rfl, rfl⟩
  · refine lmo2 (c_M_takeBack (d := d + 17) (o := kq S (ck c) (ck k) 0) C.cM1 (fun z => ⟨(C.lfM z).1, (C.lfM z).2.1, (C.lfM z).2.2.1, (C.lfM z).2.2.2.1⟩)) ⟨_, _, rfl, rfl⟩ ⟨_, _, rfl, rfl⟩ (mgo_0 ..) (fun hc S' y hP => ?_) ((p_take C).1) hcl C hR
    obtain ⟨rfl, rfl⟩ := hP
    have q := (p_take C).2 hc
    exact ⟨q, _, rfl, by rw [q.1.2.1]⟩
theorem o_settle {c : Int32} (hO : lO m out (D.1 1000)) (R : Rep E (D.1 1000) S (lKm m A out g K0) h) (C : Cpl S A) (hr : h.2.1 + 7 ≤ xCmax ∧ h.2.2.1 + 216 ≤ xSmax) : ∃ RX : Int32 → CS → Int64 → Prop, xV D N0 mL_settle (d + 20) 0 (xargs 4 [.ref (E (0, 0, 0)), .int c, .ref out]) [] h (lP1 D E A m out K0 h RX) ∧ ∀ u k' S' y, RX k' S' y → xV D N0 mM_settle (d + 20) 0 (xargs 4 [.ref m, .int c]) [] (hm m A u) (lP2 m u S' y k' wI) := by
  have hr0 : xrm h := ⟨by have := hr.1; omega, by have := hr.2; omega⟩
  have hci : ∀ ci, eSetC S c (ck c) = some ci → ci = 8 ∨ ci = 10 := by
    intro ci hz
    unfold eSetC at hz
    (repeat' split at hz) <;> (cases hz <;> decide)
  have hcl : ∀ ci, eSetC S c (ck c) = some ci → lco [8, 10] ci ≠ 0 := fun ci hz => by
    rcases hci ci hz with rfl | rfl <;> decide
  refine ⟨lR S [8, 10] (eSetC S c (ck c)) (fun S' y => S' = csetl S (ck c) (ck (kf S (ck c) 9)) ∧ y = (cspent (S.1 (21, ck c, 0) 6) (che S (ck c) (ck (kf S (ck c) 9))) true).toInt64), ?_, fun u k' S' y hR => ?_⟩
  · refine lcl_I hO R (l_settle R.net (c_N_settle (d := d + 11) (l := ck (kf S (ck c) 9)) R hr0 C.cOK C.cN C.stN) (fun o u hq => ⟨_, hq.1, hq.2.1.outg hO⟩) hci) (fun o u hq => ?_)
    exact ⟨_, E, _, hq.1, rfl, hq.2.1, hq.2.2.mk, rfl, rfl⟩
  · refine lmo2 (c_M_settle (d := d + 17) C.cM4 C.stM) ⟨_, _, rfl, rfl⟩ ⟨_, _, rfl, rfl⟩ (mset_0 ..) (fun hc S' y hP => ?_) ((p_set C).1) hcl C hR
    obtain ⟨rfl, rfl⟩ := hP
    have q := (p_set C).2 hc
    exact ⟨q.1, _, rfl, by rw [q.2]⟩
theorem o_grow {n : Int32} (hO : lO m out (D.1 1000)) (R : Rep E (D.1 1000) S (lKm m A out g K0) h) (C : Cpl S A) (hr : h.2.1 + 7 ≤ xCmax ∧ h.2.2.1 + 216 ≤ xSmax) : ∃ RX : Int32 → CS → Int64 → Prop, xV D N0 mL_grow (d + 20) 0 (xargs 4 [.ref (E (0, 0, 0)), .int n, .ref out]) [] h (lP1 D E A m out K0 h RX) ∧ ∀ u k' S' y, RX k' S' y → xV D N0 mM_grow (d + 20) 0 (xargs 5 [.ref m, .int n]) [] (hm m A u) (lP2 m u S' y k' wI) := by
  have hr0 : xrm h := ⟨by have := hr.1; omega, by have := hr.2; omega⟩
  have hci : ∀ ci, eGrow n = some ci → ci = 9 := by
    intro ci hz
    unfold eGrow at hz
    (repeat' split at hz) <;> (cases hz <;> decide)
  have hcl : ∀ ci, eGrow n = some ci → lco [9] ci ≠ 0 := fun ci hz => by
    rcases hci ci hz with rfl <;> decide
  refine ⟨lR S [9] (eGrow n) (fun S' y => S' = (cgi S 0 (ck n)).1 ∧ y = (cgi S 0 (ck n)).2.toInt64), ?_, fun u k' S' y hR => ?_⟩
  · refine lcl_I hO R (l_grow R.net (c_N_grow (d := d + 11) R hr0 C.cOK C.2.2.1.2.1 gr_n) (fun o u hq => ⟨_, hq.1, hq.2.1.outg hO⟩) hci) (fun o u hq => ?_)
    exact ⟨_, E, _, hq.1, rfl, hq.2.1, hq.2.2.mk, rfl, rfl⟩
  · refine lmo2 (c_M_grow (d := d + 17) (N := ck n) C.2.2.1.2.1 C.2.2.1.1 (fun i hi => (C.2.2.1.2.2.1 i hi).anyo) gr_t) ⟨_, _, rfl, rfl⟩ ⟨_, _, rfl, rfl⟩ (gout_0 ..) (fun hc S' y hP => ?_) ((p_grow C).1) hcl C hR
    obtain ⟨rfl, rfl⟩ := hP
    have q := (p_grow C).2 hc
    exact ⟨q.1, _, rfl, by rw [q.2]⟩
theorem o_coins {n : Int32} (hO : lO m out (D.1 1000)) (R : Rep E (D.1 1000) S (lKm m A out g K0) h) (C : Cpl S A) (hr : h.2.1 + 7 ≤ xCmax ∧ h.2.2.1 + 216 ≤ xSmax) : ∃ RX : Int32 → CS → Int64 → Prop, xV D N0 mL_coins (d + 20) 0 (xargs 4 [.ref (E (0, 0, 0)), .int n, .ref out]) [] h (lP1 D E A m out K0 h RX) ∧ ∀ u k' S' y, RX k' S' y → xV D N0 mM_coins (d + 20) 0 (xargs 2 [.ref m, .int n]) [] (hm m A u) (lP2 m u S' y k' wI) := by
  have hr0 : xrm h := ⟨by have := hr.1; omega, by have := hr.2; omega⟩
  have hci : ∀ ci, eNd n = some ci → ci = 8 := by
    intro ci hz
    unfold eNd at hz
    (repeat' split at hz) <;> (cases hz <;> decide)
  have hcl : ∀ ci, eNd n = some ci → lco [8] ci ≠ 0 := fun ci hz => by
    rcases hci ci hz with rfl <;> decide
  refine ⟨lR S [8] (eNd n) (fun S' y => S' = S ∧ y = (S.1 (1, 0, 0) (ck n)).toInt64), ?_, fun u k' S' y hR => ?_⟩
  · refine lcl_I hO R (l_coins R.net (c_N_coins (d := d + 11) R hr0 nd_of) (fun o u hq => ⟨_, hq.1, by rw [hq.2]; exact R.outg hO⟩) hci) (fun o u hq => ?_)
    obtain ⟨q1, q2⟩ := hq
    subst q2
    exact ⟨_, E, S, q1, rfl, R, ⟨Nat.le_add_right _ _, Nat.le_add_right _ _⟩, rfl, rfl⟩
  · refine lmo2 (t := tNd n) (c_M_coins0 (d := d + 18) nd_of) ⟨_, _, rfl, rfl⟩ ⟨_, _, rfl, rfl⟩ (rfl) (fun hc S' y hP => ?_) (tNd_cd n) hcl C hR
    obtain ⟨rfl, rfl⟩ := hP
    exact ⟨C.F0 0, _, rfl, by rw [C.1.2.1]⟩
theorem o_knows {n : Int32} {k : Int64} (hO : lO m out (D.1 1000)) (R : Rep E (D.1 1000) S (lKm m A out g K0) h) (C : Cpl S A) (hr : h.2.1 + 7 ≤ xCmax ∧ h.2.2.1 + 216 ≤ xSmax) : ∃ RX : Int32 → CS → Int64 → Prop, xV D N0 mL_knows (d + 20) 0 (xargs 6 [.ref (E (0, 0, 0)), .int n, .long k, .ref out]) [] h (lP1 D E A m out K0 h RX) ∧ ∀ u k' S' y, RX k' S' y → xV D N0 mM_knows (d + 20) 0 (xargs 4 [.ref m, .int n, .long k]) [] (hm m A u) (lP2 m u S' y k' wZ) := by
  have hr0 : xrm h := ⟨by have := hr.1; omega, by have := hr.2; omega⟩
  have hci : ∀ ci, eNd n = some ci → ci = 8 := by
    intro ci hz
    unfold eNd at hz
    (repeat' split at hz) <;> (cases hz <;> decide)
  have hcl : ∀ ci, eNd n = some ci → lco [8] ci ≠ 0 := fun ci hz => by
    rcases hci ci hz with rfl <;> decide
  refine ⟨lR S [8] (eNd n) (fun S' y => S' = S ∧ y = (xB (cknows S n k)).toInt64), ?_, fun u k' S' y hR => ?_⟩
  · refine lcl_I hO R (l_knows R.net (c_N_knows (d := d + 11) R hr0 C.2.1.2.2.2) (fun o u hq => ⟨_, hq.1, by rw [hq.2]; exact R.outg hO⟩) hci) (fun o u hq => ?_)
    obtain ⟨q1, q2⟩ := hq
    subst q2
    exact ⟨_, E, S, q1, rfl, R, ⟨Nat.le_add_right _ _, Nat.le_add_right _ _⟩, rfl, rfl⟩
  · refine lmo2 (t := tNd n) (c_M_knows0 (d := d + 18) C.2.1.1 C.2.1.2.2.2.1) ⟨_, false, rfl, rfl⟩ ⟨_, _, rfl, rfl⟩ (rfl) (fun hc S' y hP => ?_) (tNd_cd n) hcl C hR
    obtain ⟨rfl, rfl⟩ := hP
    exact ⟨C.F0 0, _, rfl, by rw [C.2.1.knows]⟩
theorem o_watch {n : Int32} {x : Int32} (hO : lO m out (D.1 1000)) (R : Rep E (D.1 1000) S (lKm m A out g K0) h) (C : Cpl S A) (hr : h.2.1 + 7 ≤ xCmax ∧ h.2.2.1 + 216 ≤ xSmax) (hx : narrow .boolean (.int x) = .int x) : ∃ RX : Int32 → CS → Int64 → Prop, xV D N0 mL_watch (d + 20) 0 (xargs 4 [.ref (E (0, 0, 0)), .int n, .int x]) [] h (lP1 D E A m out K0 h RX) ∧ ∀ u k' S' y, RX k' S' y → xV D N0 mM_watch (d + 20) 0 (xargs 3 [.ref m, .int n, .int x]) [] (hm m A u) (lP2 m u S' y k' wV) := by
  have hr0 : xrm h := ⟨by have := hr.1; omega, by have := hr.2; omega⟩
  have hci : ∀ ci, eNd n = some ci → ci = 8 := by
    intro ci hz
    unfold eNd at hz
    (repeat' split at hz) <;> (cases hz <;> decide)
  have hcl : ∀ ci, eNd n = some ci → lco [8] ci ≠ 0 := fun ci hz => by
    rcases hci ci hz with rfl <;> decide
  refine ⟨lR S [8] (eNd n) (fun S' y => S' = cfI S (5, 0, 0) (ck n) x), ?_, fun u k' S' y hR => ?_⟩
  · refine lcl_V R (l_watch R.net (c_N_watch (d := d + 11) R hr0 nd_of hx) (fun o u hq => hq.1) hci) (fun o u hq => ?_)
    exact ⟨E, _, rfl, hq.2.1, hq.2.2.mk, fun _ => rfl⟩
  · refine lmo2 (t := tNd n) (c_M_watch0 (d := d + 18) nd_of hx) ⟨0, rfl⟩ ⟨0, rfl⟩ (rfl) (fun hc S' y hP => ?_) (tNd_cd n) hcl C hR
    subst hP
    exact ⟨p_watch C, rfl⟩
theorem o_channel {c : Int32} {w : Int32} (hO : lO m out (D.1 1000)) (R : Rep E (D.1 1000) S (lKm m A out g K0) h) (C : Cpl S A) (hr : h.2.1 + 7 ≤ xCmax ∧ h.2.2.1 + 216 ≤ xSmax) : ∃ RX : Int32 → CS → Int64 → Prop, xV D N0 mL_channel (d + 20) 0 (xargs 5 [.ref (E (0, 0, 0)), .int c, .int w, .ref out]) [] h (lP1 D E A m out K0 h RX) ∧ ∀ u k' S' y, RX k' S' y → xV D N0 mM_channel (d + 20) 0 (xargs 3 [.ref m, .int c, .int w]) [] (hm m A u) (lP2 m u S' y k' wI) := by
  have hr0 : xrm h := ⟨by have := hr.1; omega, by have := hr.2; omega⟩
  have hci : ∀ ci, eChan S c w 5 = some ci → ci = 8 ∨ ci = 9 := by
    intro ci hz
    unfold eChan at hz
    (repeat' split at hz) <;> (cases hz <;> decide)
  have hcl : ∀ ci, eChan S c w 5 = some ci → lco [8, 9] ci ≠ 0 := fun ci hz => by
    rcases hci ci hz with rfl | rfl <;> decide
  refine ⟨lR S [8, 9] (eChan S c w 5) (fun S' y => S' = S ∧ y = (rChanC S (ck c) w).toInt64), ?_, fun u k' S' y hR => ?_⟩
  · refine lcl_I hO R (l_channel R.net (c_N_channel (d := d + 11) R hr0 C.cN) (fun o u hq => ⟨_, hq.1, by rw [hq.2]; exact R.outg hO⟩) hci) (fun o u hq => ?_)
    obtain ⟨q1, q2⟩ := hq
    subst q2
    exact ⟨_, E, S, q1, rfl, R, ⟨Nat.le_add_right _ _, Nat.le_add_right _ _⟩, rfl, rfl⟩
  · refine lmo2 (c_M_channel (d := d + 17) C.cM1) ⟨_, _, rfl, rfl⟩ ⟨_, _, rfl, rfl⟩ (rfl) (fun hc S' y hP => ?_) ((p_chan C).1) hcl C hR
    obtain ⟨rfl, rfl⟩ := hP
    exact ⟨C.F0 0, _, rfl, by rw [(p_chan C).2 hc]⟩
theorem o_payment {p : Int32} {w : Int32} (hO : lO m out (D.1 1000)) (R : Rep E (D.1 1000) S (lKm m A out g K0) h) (C : Cpl S A) (hr : h.2.1 + 7 ≤ xCmax ∧ h.2.2.1 + 216 ≤ xSmax) : ∃ RX : Int32 → CS → Int64 → Prop, xV D N0 mL_payment (d + 20) 0 (xargs 5 [.ref (E (0, 0, 0)), .int p, .int w, .ref out]) [] h (lP1 D E A m out K0 h RX) ∧ ∀ u k' S' y, RX k' S' y → xV D N0 mM_payment (d + 20) 0 (xargs 3 [.ref m, .int p, .int w]) [] (hm m A u) (lP2 m u S' y k' wI) := by
  have hr0 : xrm h := ⟨by have := hr.1; omega, by have := hr.2; omega⟩
  have hci : ∀ ci, ePayt S p w = some ci → ci = 8 ∨ ci = 9 := by
    intro ci hz
    unfold ePayt at hz
    (repeat' split at hz) <;> (cases hz <;> decide)
  have hcl : ∀ ci, ePayt S p w = some ci → lco [8, 9] ci ≠ 0 := fun ci hz => by
    rcases hci ci hz with rfl | rfl <;> decide
  refine ⟨lR S [8, 9] (ePayt S p w) (fun S' y => S' = S ∧ y = (rPaytC S (ck p) w).toInt64), ?_, fun u k' S' y hR => ?_⟩
  · refine lcl_I hO R (l_payment R.net (c_N_payment (d := d + 11) R hr0 C.pN) (fun o u hq => ⟨_, hq.1, by rw [hq.2]; exact R.outg hO⟩) hci) (fun o u hq => ?_)
    obtain ⟨q1, q2⟩ := hq
    subst q2
    exact ⟨_, E, S, q1, rfl, R, ⟨Nat.le_add_right _ _, Nat.le_add_right _ _⟩, rfl, rfl⟩
  · refine lmo2 (c_M_payment (d := d + 17) C.pM) ⟨_, _, rfl, rfl⟩ ⟨_, _, rfl, rfl⟩ (rfl) (fun hc S' y hP => ?_) ((p_payt C).1) hcl C hR
    obtain ⟨rfl, rfl⟩ := hP
    exact ⟨C.F0 0, _, rfl, by rw [(p_payt C).2 hc]⟩
theorem o_hop {i : Int32} (hO : lO m out (D.1 1000)) (R : Rep E (D.1 1000) S (lKm m A out g K0) h) (C : Cpl S A) (hr : h.2.1 + 7 ≤ xCmax ∧ h.2.2.1 + 216 ≤ xSmax) : ∃ RX : Int32 → CS → Int64 → Prop, xV D N0 mL_hop (d + 20) 0 (xargs 4 [.ref (E (0, 0, 0)), .int i, .ref out]) [] h (lP1 D E A m out K0 h RX) ∧ ∀ u k' S' y, RX k' S' y → xV D N0 mM_hop (d + 20) 0 (xargs 2 [.ref m, .int i]) [] (hm m A u) (lP2 m u S' y k' wI) := by
  have hr0 : xrm h := ⟨by have := hr.1; omega, by have := hr.2; omega⟩
  have hci : ∀ ci, eHop S i = some ci → ci = 8 := by
    intro ci hz
    unfold eHop at hz
    (repeat' split at hz) <;> (cases hz <;> decide)
  have hcl : ∀ ci, eHop S i = some ci → lco [8] ci ≠ 0 := fun ci hz => by
    rcases hci ci hz with rfl <;> decide
  refine ⟨lR S [8] (eHop S i) (fun S' y => S' = S ∧ y = (rHopC S (ck i) i).toInt64), ?_, fun u k' S' y hR => ?_⟩
  · refine lcl_I hO R (l_hop R.net (c_N_hop (d := d + 11) R hr0 (p_hop (i := i) C).2.2.1 (C.hpN)) (fun o u hq => ⟨_, hq.1, by rw [hq.2]; exact R.outg hO⟩) hci) (fun o u hq => ?_)
    obtain ⟨q1, q2⟩ := hq
    subst q2
    exact ⟨_, E, S, q1, rfl, R, ⟨Nat.le_add_right _ _, Nat.le_add_right _ _⟩, rfl, rfl⟩
  · refine lmo2 (t := tHop A i) (c_M_hop0 (d := d + 17) C) ⟨_, _, rfl, rfl⟩ ⟨_, _, rfl, rfl⟩ (rfl) (fun hc S' y hP => ?_) ((p_hop C).1) hcl C hR
    obtain ⟨rfl, rfl⟩ := hP
    exact ⟨C.F0 0, _, rfl, by rw [(p_hop C).2.1 hc]⟩
theorem o_made {c : Int32} {k : Int32} {w : Int32} (hO : lO m out (D.1 1000)) (R : Rep E (D.1 1000) S (lKm m A out g K0) h) (C : Cpl S A) (hr : h.2.1 + 7 ≤ xCmax ∧ h.2.2.1 + 216 ≤ xSmax) : ∃ RX : Int32 → CS → Int64 → Prop, xV D N0 mL_made (d + 20) 0 (xargs 6 [.ref (E (0, 0, 0)), .int c, .int k, .int w, .ref out]) [] h (lP1 D E A m out K0 h RX) ∧ ∀ u k' S' y, RX k' S' y → xV D N0 mM_made (d + 20) 0 (xargs 5 [.ref m, .int c, .int k, .int w]) [] (hm m A u) (lP2 m u S' y k' wI) := by
  have hr0 : xrm h := ⟨by have := hr.1; omega, by have := hr.2; omega⟩
  have hci : ∀ ci, eMade S c k w (ck c) = some ci → ci = 8 ∨ ci = 9 := by
    intro ci hz
    unfold eMade at hz
    (repeat' split at hz) <;> (cases hz <;> decide)
  have hcl : ∀ ci, eMade S c k w (ck c) = some ci → lco [8, 9] ci ≠ 0 := fun ci hz => by
    rcases hci ci hz with rfl | rfl <;> decide
  refine ⟨lR S [8, 9] (eMade S c k w (ck c)) (fun S' y => S' = S ∧ y = (rMadeC S (ck c) (ck k) w).toInt64), ?_, fun u k' S' y hR => ?_⟩
  · refine lcl_I hO R (l_made R.net (c_N_made (d := d + 11) R hr0 C.cN C.kN) (fun o u hq => ⟨_, hq.1, by rw [hq.2]; exact R.outg hO⟩) hci) (fun o u hq => ?_)
    obtain ⟨q1, q2⟩ := hq
    subst q2
    exact ⟨_, E, S, q1, rfl, R, ⟨Nat.le_add_right _ _, Nat.le_add_right _ _⟩, rfl, rfl⟩
  · refine lmo2 (c_M_made (d := d + 17) C.cM2 C.mdM) ⟨_, _, rfl, rfl⟩ ⟨_, _, rfl, rfl⟩ (rfl) (fun hc S' y hP => ?_) ((p_made C).1) hcl C hR
    obtain ⟨rfl, rfl⟩ := hP
    exact ⟨C.F0 0, _, rfl, by rw [(p_made C).2 hc]⟩
theorem o_state {c : Int32} {s : Int32} {w : Int32} (hO : lO m out (D.1 1000)) (R : Rep E (D.1 1000) S (lKm m A out g K0) h) (C : Cpl S A) (hr : h.2.1 + 7 ≤ xCmax ∧ h.2.2.1 + 216 ≤ xSmax) : ∃ RX : Int32 → CS → Int64 → Prop, xV D N0 mL_state (d + 20) 0 (xargs 6 [.ref (E (0, 0, 0)), .int c, .int s, .int w, .ref out]) [] h (lP1 D E A m out K0 h RX) ∧ ∀ u k' S' y, RX k' S' y → xV D N0 mM_state (d + 20) 0 (xargs 8 [.ref m, .int c, .int s, .int w]) [] (hm m A u) (lP2 m u S' y k' wI) := by
  have hr0 : xrm h := ⟨by have := hr.1; omega, by have := hr.2; omega⟩
  have hci : ∀ ci, eState S c s w (ck c) = some ci → ci = 8 ∨ ci = 9 := by
    intro ci hz
    unfold eState at hz
    (repeat' split at hz) <;> (cases hz <;> decide)
  have hcl : ∀ ci, eState S c s w (ck c) = some ci → lco [8, 9] ci ≠ 0 := fun ci hz => by
    rcases hci ci hz with rfl | rfl <;> decide
  refine ⟨lR S [8, 9] (eState S c s w (ck c)) (fun S' y => S' = S ∧ y = (rStateC S (ck c) (ck s) w).toInt64), ?_, fun u k' S' y hR => ?_⟩
  · refine lcl_I hO R (l_state R.net (c_N_state (d := d + 11) R hr0 (fun z => ⟨(C.cN z).1, (C.cN z).2, (C.cOK.1 _ (C.cN z).2).2.2.2⟩) C.suN) (fun o u hq => ⟨_, hq.1, by rw [hq.2]; exact R.outg hO⟩) hci) (fun o u hq => ?_)
    obtain ⟨q1, q2⟩ := hq
    subst q2
    exact ⟨_, E, S, q1, rfl, R, ⟨Nat.le_add_right _ _, Nat.le_add_right _ _⟩, rfl, rfl⟩
  · refine lmo2 (c_M_state (d := d + 17) C.cM6 C.suM) ⟨_, _, rfl, rfl⟩ ⟨_, _, rfl, rfl⟩ (rfl) (fun hc S' y hP => ?_) ((p_state C).1) hcl C hR
    obtain ⟨rfl, rfl⟩ := hP
    exact ⟨C.F0 0, _, rfl, by rw [(p_state C).2 hc]⟩
end X99i
