/- Part 95: class and model side by side: take back, claim, promise. -/
/-- a promise that is left of what was published -/
theorem CC.lft2 {S : CS} {A : MS} {j : Nat} (c : CC S A j) (k : Int32) : (if A.2.1 18 j = -1 then decide (0 ≤ k ∧ k ≤ A.2.1 13 j - 1) else mbit (A.2.2 21 j) k) = gAt S k j (ck k) := by
  have cc := c
  obtain ⟨c1, c2, c3, c4, c5, c6, c7, c8, c9⟩ := c
  have hL := c2.2.1
  have hN := c2.2.2.2
  rw [c3.2.2.1]
  unfold gAt
  by_cases h : kf S j 9 = -1
  · rw [if_pos h, show S.1 (21, j, 0) 9 = -1 from h, c2.2.2.1]
    simp only [decide_true, Bool.true_or, Bool.and_true]
    unfold inr0
    exact decide_eq_decide.mpr (by rw [le_pred (by omega)])
  · rw [if_neg h]
    obtain ⟨p1, p2⟩ := cc.pubd h
    rw [show decide (S.1 (21, j, 0) 9 = -1) = false from decide_eq_false h, Bool.false_or]
    by_cases h6 : inr0 k 64 = true
    · obtain ⟨e1, e2⟩ := inr0_of (by decide) h6
      have h1 := mbit_gb (A.2.2 21 j) e2
      have h2 := c8.2 _ p1 p2 (ck k) e2
      rw [← e1] at h1
      rw [h1, h2]
      have h3 := inr0_n (q := ck k) (n := kn S j) (by omega) (by omega)
      rw [← e1] at h3
      rw [h3]
      unfold plf pin
      rw [← p2]
    · have z1 : mbit (A.2.2 21 j) k = false := by
        cases e : mbit (A.2.2 21 j) k with
        | false => rfl
        | true =>
          unfold mbit at e
          obtain ⟨e1, e2, -⟩ := of_decide_eq_true e
          exact absurd (decide_eq_true ⟨e1, e2⟩) h6
      rw [z1]
      cases e : inr0 k (S.2.2.2 (24, j, 0) 0) with
      | false => rfl
      | true =>
        exfalso
        apply h6
        unfold inr0 at e ⊢
        obtain ⟨e1, e2⟩ := of_decide_eq_true e
        refine decide_eq_true ⟨e1, ?_⟩
        have e3 : k < nI (kn S j) := e2
        rw [lt_n (by omega)] at e3
        rw [lt_n (by decide)]
        omega
theorem gAt_of {S : CS} {A : MS} {j : Nat} {k : Int32} (cc : CC S A j) (h : gAt S k j (ck k) = true) : k = nI (ck k) ∧ ck k < kn S j ∧ (kf S j 9 ≠ -1 → plf S j (ck (kf S j 9)) (ck k) = true) := by
  have hL := cc.2.1.2.1
  have hN := cc.2.1.2.2.2
  unfold gAt at h
  obtain ⟨h1, h2⟩ := Bool.and_eq_true_iff.mp h
  obtain ⟨e1, e2⟩ := inr0_of (by show kn S j < _; omega) h1
  refine ⟨e1, e2, fun z => ?_⟩
  obtain ⟨p1, p2⟩ := cc.pubd z
  rw [show decide (S.1 (21, j, 0) 9 = -1) = false from decide_eq_false z, Bool.false_or] at h2
  unfold plf pin
  rw [← p2]
  exact h2
theorem mleft_eq {S : CS} {A : MS} {c k : Int32} (C : Cpl S A) : mleft A c k (ck c) = true ↔ (cAt S c = true ∧ gAt S k (ck c) (ck k) = true) := by
  unfold mleft
  rw [isc_eq C.2.2.1 c, Bool.and_eq_true_iff]
  by_cases h1 : cAt S c = true
  · obtain ⟨-, h2⟩ := C.2.2.1.at h1
    rw [(C.2.2.1.2.2.1 _ h2).lft2 k]
  · exact ⟨fun z => absurd z.1 h1, fun z => absurd z.1 h1⟩
theorem p_take {S : CS} {A : MS} {c k : Int32} (C : Cpl S A) : tTake A c k (ck c) (ck k) = cd [8, 10] (eTake S c k (ck c) (ck k)) ∧ (eTake S c k (ck c) (ck k) = none → Cpl (cpayp S (ck c) (ck k) (kq S (ck c) (ck k) 0)) (mgo (mF A 0 0) (ck c) (ck k) (kq S (ck c) (ck k) 0))) := by
  have hl := mleft_eq (c := c) (k := k) C
  unfold tTake eTake
  by_cases h3 : cAt S c = true ∧ gAt S k (ck c) (ck k) = true
  · obtain ⟨-, h2⟩ := C.2.2.1.at h3.1
    have cc := C.2.2.1.2.2.1 _ h2
    obtain ⟨e1, e2, e3⟩ := gAt_of cc h3.2
    obtain ⟨-, d1, d2, d3, -⟩ := cc.2.2.2.2.2.1 _ e2
    rw [if_pos (hl.mpr h3), if_pos h3, d3, cmay_eq C h2]
    have hcond : (A.2.1 8 (ck c) ≠ 1 ∨ cmay S (ck c) = true ∨ ¬ kp S (ck c) (ck k) 4 ≤ A.1 6) ↔ ¬ ((S.1 (21, ck c, 0) 6 = 1 ∧ cmay S (ck c) = false) ∧ S.1 (26, ck c, ck k) 4 ≤ S.1 (0, 0, 0) 0) := by
      rw [cc.2.2.1.1, C.1.1, Classical.not_and_iff_not_or_not, Classical.not_and_iff_not_or_not, or_assoc]
      simp only [Bool.not_eq_false, ne_eq]
    by_cases h4 : (S.1 (21, ck c, 0) 6 = 1 ∧ cmay S (ck c) = false) ∧ S.1 (26, ck c, ck k) 4 ≤ S.1 (0, 0, 0) 0
    · rw [if_neg (fun z => hcond.mp z h4), if_pos h4]
      refine ⟨rfl, fun _ => ?_⟩
      have h9 := cc.2.2.2.1.2.2.1 h4.1.1
      obtain ⟨p1, p2⟩ := cc.pubd h9
      obtain ⟨r, r1, r2, r3, r4, r5, r6, r7⟩ := cc.2.2.2.2.2.1.ends cc.1 e2
      have hv : kq S (ck c) (ck k) 0 < 6 := by
        rw [r3]
        rcases Nat.lt_or_ge r 1 with z | z
        · rw [show r = 0 by omega]
          exact cc.1.two.1
        · rw [show r = 1 by omega]
          exact cc.1.two.2
      exact (C.F0 0).payp h2 h4.1.1 p1 p2 e2 (e3 h9) hv
    · rw [if_pos (hcond.mpr h4), if_neg h4]
      exact ⟨rfl, fun z => by cases z⟩
  · rw [if_neg (fun z => h3 (hl.mp z)), if_neg h3]
    exact ⟨rfl, fun z => by cases z⟩
theorem p_claim {S : CS} {A : MS} {c k : Int32} {s : Int64} (C : Cpl S A) : tClaim A c k s (ck c) (ck k) (S.2.2.1 (6, 0, 0) 0) = cd [8, 9, 10] (eClaim S c k s (ck c) (ck k)) ∧ (eClaim S c k s (ck c) (ck k) = none → Cpl (cclaim S (ck c) (ck k) s) (mclaim A (ck c) (ck k) (kq S (ck c) (ck k) 1) (S.2.2.1 (6, 0, 0) 0) s)) := by
  have hl := mleft_eq (c := c) (k := k) C
  unfold tClaim eClaim
  by_cases h3 : cAt S c = true ∧ gAt S k (ck c) (ck k) = true
  · obtain ⟨-, h2⟩ := C.2.2.1.at h3.1
    have cc := C.2.2.1.2.2.1 _ h2
    obtain ⟨e1, e2, e3⟩ := gAt_of cc h3.2
    obtain ⟨-, d1, d2, d3, -⟩ := cc.2.2.2.2.2.1 _ e2
    rw [if_pos (hl.mpr h3), if_pos h3, d2, d3, cmay_eq C h2, C.2.1.has]
    by_cases h5 : S.2.1 (26, ck c, ck k) 0 = lk s
    · rw [if_neg (fun z => z h5), if_pos h5]
      have hcond : (A.2.1 8 (ck c) ≠ 1 ∨ cmay S (ck c) = true ∨ kp S (ck c) (ck k) 4 ≤ A.1 6 ∨ chas S (lk s) = false) ↔ ¬ ((S.1 (21, ck c, 0) 6 = 1 ∧ cmay S (ck c) = false) ∧ S.1 (0, 0, 0) 0 < S.1 (26, ck c, ck k) 4 ∧ chas S (lk s) = true) := by
        rw [cc.2.2.1.1, C.1.1, Classical.not_and_iff_not_or_not, Classical.not_and_iff_not_or_not, Classical.not_and_iff_not_or_not, or_assoc, le_nlt]
        simp only [Bool.not_eq_false, Bool.not_eq_true, ne_eq]
      by_cases h4 : (S.1 (21, ck c, 0) 6 = 1 ∧ cmay S (ck c) = false) ∧ S.1 (0, 0, 0) 0 < S.1 (26, ck c, ck k) 4 ∧ chas S (lk s) = true
      · rw [if_neg (fun z => hcond.mp z h4), if_pos h4]
        refine ⟨rfl, fun _ => ?_⟩
        have h9 := cc.2.2.2.1.2.2.1 h4.1.1
        obtain ⟨p1, p2⟩ := cc.pubd h9
        obtain ⟨r, r1, r2, r3, r4, r5, r6, r7⟩ := cc.2.2.2.2.2.1.ends cc.1 e2
        have hv : kq S (ck c) (ck k) 1 < 6 := by
          rw [r4]
          rcases Nat.lt_or_ge r 1 with z | z
          · rw [show 1 - r = 1 by omega]
            exact cc.1.two.2
          · rw [show 1 - r = 0 by omega]
            exact cc.1.two.1
        have L := (C.F0 0).learn 63 h4.2.2
        have s1 := clearn_chS S (lk s) 63 (ck c)
        have f1 := s1.1 (21, ck c, 0) (by show 21 ≤ 21; omega) (by show 21 ≤ 26; omega) rfl
        have f2 := (s1.1 (26, ck c, ck k) (by show 21 ≤ 26; omega) (by show 26 ≤ 26; omega) rfl).1
        have z := clearn_z S (lk s) 63
        refine L.payp (q := ck (kf S (ck c) 9)) (by unfold kC; rw [z]; exact h2) (by unfold kf; rw [f1.1]; exact h4.1.1) (by unfold kw; rw [f1.2.2]; exact p1) (by show (clearn S (lk s) 63).1 (21, ck c, 0) 9 = _; rw [f1.1]; exact p2) (by unfold kn; rw [z]; exact e2) ?_ hv
        have := e3 h9
        unfold plf pin kp at this ⊢
        rw [f2]
        exact this
      · rw [if_pos (hcond.mpr h4), if_neg h4]
        exact ⟨rfl, fun z => by cases z⟩
    · rw [if_pos h5, if_neg h5]
      exact ⟨rfl, fun z => by cases z⟩
  · rw [if_neg (fun z => h3 (hl.mp z)), if_neg h3]
    exact ⟨rfl, fun z => by cases z⟩
theorem cadd_sk (S : CS) (j p q : Nat) (am : Int32) (lo : Int64) (dl : Int32) (c : Nat) (mo : Int32) : sk (fun k => 21 ≤ k ∧ k ≤ 26) S (cadd S j p q am lo dl c mo) := fun r hr => by
  have n1 : r ≠ (24, j, 0) := fun z => hr (by rw [z]; exact ⟨by show 21 ≤ 24; omega, by show 24 ≤ 26; omega⟩)
  have n2 : r ≠ (26, j, kn S j) := fun z => hr (by rw [z]; exact ⟨by show 21 ≤ 26; omega, by show 26 ≤ 26; omega⟩)
  have n3 : r ≠ (21, j, 0) := fun z => hr (by rw [z]; exact ⟨by show 21 ≤ 21; omega, by show 21 ≤ 26; omega⟩)
  have s : sk (fun k => 21 ≤ k ∧ k ≤ 26) S (cst S j (nI p) (-am)) := by
    unfold cst
    exact (((sk.refl _ S).I (by show 21 ≤ 22 ∧ 22 ≤ 26; omega)).I (by show 21 ≤ 23 ∧ 23 ≤ 26; omega)).N (by show 21 ≤ 21 ∧ 21 ≤ 26; omega)
  refine ⟨?_, ?_, ?_⟩
  · rw [cadd_i _ _ _ _ _ _ _ _ _ _ n1, if_neg n2]
    exact (s r hr).1
  · rw [cadd_g, if_neg n2]
  · funext i
    rw [cadd_w, if_neg n2, if_neg (fun z => n3 z.1)]
theorem madd_ak (A : MS) (j L k : Nat) (side am : Int32) (lo : Int64) (dl : Int32) : ak (fun _ => False) (fun k => 8 ≤ k ∧ k ≤ 22) A (madd A j L k side am lo dl) := by
  unfold madd
  exact ((((((ak.refl _ _ A).I (by decide)).I (by decide)).I (by decide)).J (by decide)).I (by decide)).trans (mnext_ak _ _ _ _ _ _)
/-- a new promise -/
theorem Cpl.addp {S : CS} {A : MS} {j r p q : Nat} {am dl : Int32} {lo : Int64} (C : Cpl S A) (hj : j < kC S) (hL : kw S j 5 < 63) (h0 : kf S j 6 = 0) (hr : r < 2) (hp : p = kw S j r) (hq : q = kw S j (1 - r)) (ha : 1 ≤ am.toInt) (hb : (r = 0 → am.toInt ≤ (S.1 (22, j, 0) (kw S j 5)).toInt) ∧ (r = 1 → am.toInt ≤ (S.1 (23, j, 0) (kw S j 5)).toInt)) (h6 : cnt (pin S j (kw S j 5)) (kn S j) < 6) (c0 : Nat) (mo : Int32) : Cpl (cadd S j p q am lo dl c0 mo) (madd A j (kw S j 5) (kn S j) (nI r) am lo dl) := by
  have cc := C.2.2.1.2.2.1 _ hj
  obtain ⟨c, hc⟩ := cc.addp (dl := dl) (lo := lo) hL h0 hr hp hq ha hb c0 mo
  have hN := cc.2.1.2.2.2
  have s := cadd_sk S j p q am lo dl c0 mo
  refine C.chan s (madd_ak A j _ _ _ _ _ _) ⟨cadd_z _ _ _ _ _ _ _ _ _ _ (by simp), cadd_z _ _ _ _ _ _ _ _ _ _ (by simp), fun p => cadd_z _ _ _ _ _ _ _ _ _ _ (by simp)⟩ ?_ hj c (by omega) ?_ (fun j' h => cadd_chS S j _ _ _ _ _ _ _ h) (fun j' h => madd_chM A j _ _ _ _ _ _ h hL (by omega))
  · refine mon_of (by unfold kC; rw [cadd_z _ _ _ _ _ _ _ _ _ _ (by simp)]; exact Nat.le_refl _) (fun c _ => ⟨?_, ?_, ?_, fun q' hq' => ⟨?_, ?_⟩⟩) ((s (6, 0, 0) (by decide)).2.2) ((s (7, 0, 0) (by decide)).2.1)
    · unfold kw
      rw [cadd_w, if_neg (by simp), if_neg (by simp)]
    · unfold kw
      rw [cadd_w, if_neg (by simp), if_neg (by simp)]
    · by_cases e : c = j
      · subst e
        unfold kn
        rw [cadd_n]
        exact Nat.le_succ _
      · unfold kn
        rw [cadd_z _ _ _ _ _ _ _ _ _ _ (by simp [e])]
        exact Nat.le_refl _
    · have ne : ¬ ((26, c, q') : RO) = (26, j, kn S j) := fun z => by
        injection z with _ z
        injection z with z1 z2
        subst z1
        omega
      unfold kp
      rw [cadd_i _ _ _ _ _ _ _ _ _ _ (by simp), if_neg ne, cst_i _ _ _ _ _ (by simp) (by simp)]
    · have ne : ¬ ((26, c, q') : RO) = (26, j, kn S j) := fun z => by
        injection z with _ z
        injection z with z1 z2
        subst z1
        omega
      rw [cadd_g, if_neg ne]
  · unfold kf
    rw [cadd_i _ _ _ _ _ _ _ _ _ _ (by simp), if_neg (by simp), cst_i _ _ _ _ _ (by simp) (by simp)]
