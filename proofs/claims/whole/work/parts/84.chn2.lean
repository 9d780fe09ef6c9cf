/- Part 84: a promise is made on both sides. -/
section X84
variable (S : CS) (A : MS) (j : Nat)
/-- the class's state after a promise is made -/
def cadd (S : CS) (j p q : Nat) (am : Int32) (lo : Int64) (dl : Int32) (c : Nat) (mo : Int32) : CS := czl (cprm S j (kn S j) p q am lo dl) (24, j, 0) (kn S j + 1) c mo
theorem cadd_i (p q : Nat) (am : Int32) (lo : Int64) (dl : Int32) (c : Nat) (mo : Int32) (r : RO) (h : r ≠ (24, j, 0)) : (cadd S j p q am lo dl c mo).1 r = if r = (26, j, kn S j) then pf0 am dl (nI (kw S j 5 + 1)) else (cst S j (nI p) (-am)).1 r := by
  unfold cadd czl
  simp only [if_neg h]
  rfl
theorem cadd_g (p q : Nat) (am : Int32) (lo : Int64) (dl : Int32) (c : Nat) (mo : Int32) (r : RO) : (cadd S j p q am lo dl c mo).2.1 r = if r = (26, j, kn S j) then (fun _ => lo) else S.2.1 r := by
  show (cset (cst S j (nI p) (-am)) (26, j, kn S j) (pf0 am dl (nI (kw S j 5 + 1))) (fun _ => lo) (pw0 p q)).2.1 r = _
  rw [cset_g, cst_g]
theorem cadd_w (p q : Nat) (am : Int32) (lo : Int64) (dl : Int32) (c : Nat) (mo : Int32) (r : RO) (i : Nat) : (cadd S j p q am lo dl c mo).2.2.1 r i = if r = (26, j, kn S j) then pw0 p q i else if r = (21, j, 0) ∧ i = 5 then kw S j 5 + 1 else S.2.2.1 r i := by
  show (cset (cst S j (nI p) (-am)) (26, j, kn S j) (pf0 am dl (nI (kw S j 5 + 1))) (fun _ => lo) (pw0 p q)).2.2.1 r i = _
  rw [cset_w]
  by_cases e : r = (26, j, kn S j)
  · rw [if_pos e, if_pos e]
  · rw [if_neg e, if_neg e, cst_w]
theorem cadd_z (p q : Nat) (am : Int32) (lo : Int64) (dl : Int32) (c : Nat) (mo : Int32) (r : RO) (h : r ≠ (24, j, 0)) : (cadd S j p q am lo dl c mo).2.2.2 r = S.2.2.2 r := by
  unfold cadd czl zset
  simp only [if_neg h]
  rfl
theorem cadd_n (p q : Nat) (am : Int32) (lo : Int64) (dl : Int32) (c : Nat) (mo : Int32) : (cadd S j p q am lo dl c mo).2.2.2 (24, j, 0) 0 = kn S j + 1 := by
  unfold cadd czl zset
  simp
theorem cadd_chS (p q : Nat) (am : Int32) (lo : Int64) (dl : Int32) (c : Nat) (mo : Int32) {j' : Nat} (hj : j' ≠ j) : chS S (cadd S j p q am lo dl c mo) j' := by
  have hc := cst_chS S j (nI p) (-am) hj
  refine ⟨fun r h1 h2 h3 => ?_, ?_⟩
  · have n1 : r ≠ (24, j, 0) := fun z => hj (by rw [z] at h3; exact h3.symm)
    have n2 : r ≠ (26, j, kn S j) := fun z => hj (by rw [z] at h3; exact h3.symm)
    have n3 : r ≠ (21, j, 0) := fun z => hj (by rw [z] at h3; exact h3.symm)
    refine ⟨?_, ?_, ?_⟩
    · rw [cadd_i _ _ _ _ _ _ _ _ _ _ n1, if_neg n2]
      exact (hc.1 r h1 h2 h3).1
    · rw [cadd_g, if_neg n2]
    · funext i
      rw [cadd_w, if_neg n2, if_neg (fun z => n3 z.1)]
  · rw [cadd_z _ _ _ _ _ _ _ _ _ _ (by simp [hj])]
theorem madd_i (L k : Nat) (side am : Int32) (lo : Int64) (dl : Int32) {x : Nat} (i : Nat) (h : x ≠ 9 ∧ x ≠ 10 ∧ x ≠ 13 ∧ x ≠ 14 ∧ x ≠ 15 ∧ x ≠ 17) : (madd A j L k side am lo dl).2.1 x i = A.2.1 x i := by
  unfold madd
  rw [mnext_i _ _ _ _ _ _ _ h.1 h.2.1]
  simp only [mI_i, mJ_i]
  rw [if_neg (fun z => h.2.2.2.2.2 z.1), if_neg (fun z => h.2.2.2.2.1 z.1), if_neg (fun z => h.2.2.2.1 z.1), if_neg (fun z => h.2.2.1 z.1)]
theorem madd_p (L k : Nat) (side am : Int32) (lo : Int64) (dl : Int32) (i : Nat) : (madd A j L k side am lo dl).2.1 13 i = (if i = j then nI (k + 1) else A.2.1 13 i) ∧ (madd A j L k side am lo dl).2.1 14 (64 * j + i) = (if i = k then side else A.2.1 14 (64 * j + i)) ∧ (madd A j L k side am lo dl).2.1 15 (64 * j + i) = (if i = k then am else A.2.1 15 (64 * j + i)) ∧ (madd A j L k side am lo dl).2.1 17 (64 * j + i) = (if i = k then dl else A.2.1 17 (64 * j + i)) := by
  unfold madd
  refine ⟨?_, ?_, ?_, ?_⟩
  all_goals
    rw [mnext_i _ _ _ _ _ _ _ (by decide) (by decide)]
    simp [mI_i, mJ_i, xn_succ]
theorem madd_9 (L k : Nat) (side am : Int32) (lo : Int64) (dl : Int32) (i : Nat) : (madd A j L k side am lo dl).2.1 9 i = if i = j then nI (L + 1) else A.2.1 9 i := by
  unfold madd
  rw [mnext_9]
  simp [mI_i, mJ_i]
theorem madd_10 (L k : Nat) (side am : Int32) (lo : Int64) (dl : Int32) (l : Nat) {s : Nat} (hs : s < 2) : (madd A j L k side am lo dl).2.1 10 (2 * (64 * j + l) + s) = if l = L + 1 then A.2.1 10 (2 * (64 * j + L) + s) + (if side = nI s then -am else 0) else A.2.1 10 (2 * (64 * j + l) + s) := by
  unfold madd
  rw [mnext_10 _ _ _ _ _ _ _ hs]
  simp [mI_i, mJ_i]
theorem madd_j (L k : Nat) (side am : Int32) (lo : Int64) (dl : Int32) (x i : Nat) : (madd A j L k side am lo dl).2.2 x i = if x = 11 ∧ i = 64 * j + L + 1 then A.2.2 11 (64 * j + L) ||| bk (nI k) else if x = 16 ∧ i = 64 * j + k then lo else A.2.2 x i := by
  unfold madd
  rw [mnext_j]
  simp only [mI_j, mJ_j]
theorem madd_chM (L k : Nat) (side am : Int32) (lo : Int64) (dl : Int32) {j' : Nat} (hj : j' ≠ j) (hL : L < 63) (hk : k < 64) : chM A (madd A j L k side am lo dl) j' := by
  unfold madd mnext
  simp only
  refine chM.J (chM.I (chM.I (chM.I (chM.I (chM.J (chM.I (chM.I (chM.I (chM.refl A j') ?_) ?_) ?_) ?_) ?_) ?_) ?_) ?_) ?_
  all_goals
    refine Or.inr (Or.inr ?_)
    unfold chIx
    simp
    omega
end X84
theorem CC.addp {S : CS} {A : MS} {j r p q : Nat} {am dl : Int32} {lo : Int64} (c : CC S A j) (hL : kw S j 5 < 63) (h0 : kf S j 6 = 0) (hr : r < 2) (hp : p = kw S j r) (hq : q = kw S j (1 - r)) (ha : 1 ≤ am.toInt) (hb : (r = 0 → am.toInt ≤ (S.1 (22, j, 0) (kw S j 5)).toInt) ∧ (r = 1 → am.toInt ≤ (S.1 (23, j, 0) (kw S j 5)).toInt)) (c0 : Nat) (mo : Int32) :
    CC (cadd S j p q am lo dl c0 mo) (madd A j (kw S j 5) (kn S j) (nI r) am lo dl) j ∧ cnt (pin (cadd S j p q am lo dl c0 mo) j (kw (cadd S j p q am lo dl c0 mo) j 5)) (kn (cadd S j p q am lo dl c0 mo) j) ≤ cnt (pin S j (kw S j 5)) (kn S j) + 1 := by
  subst hp hq
  obtain ⟨c1, c2, c3, c4, c5, c6, c7, c8, c9⟩ := c
  generalize eS : cadd S j (kw S j r) (kw S j (1 - r)) am lo dl c0 mo = S'
  have vf : ∀ i, S'.1 (21, j, 0) i = S.1 (21, j, 0) i := fun i => by rw [← eS, cadd_i _ _ _ _ _ _ _ _ _ _ (by simp), if_neg (by simp), cst_i _ _ _ _ _ (by simp) (by simp)]
  have vw : ∀ i, i ≠ 5 → S'.2.2.1 (21, j, 0) i = S.2.2.1 (21, j, 0) i := fun i hi => by rw [← eS, cadd_w]; simp [hi]
  have v5 : S'.2.2.1 (21, j, 0) 5 = kw S j 5 + 1 := by rw [← eS, cadd_w]; simp
  have vp : ∀ q i, S'.1 (26, j, q) i = if q = kn S j then pf0 am dl (nI (kw S j 5 + 1)) i else S.1 (26, j, q) i := fun q i => by
    rw [← eS, cadd_i _ _ _ _ _ _ _ _ _ _ (by simp), cst_i _ _ _ _ _ (by simp) (by simp)]
    by_cases e : q = kn S j
    · simp [e]
    · rw [if_neg e, if_neg (fun z => e (by injection z with z1 z2; injection z2))]
  have vg : ∀ q, S'.2.1 (26, j, q) 0 = if q = kn S j then lo else S.2.1 (26, j, q) 0 := fun q => by
    rw [← eS, cadd_g]
    by_cases e : q = kn S j
    · simp [e]
    · rw [if_neg e, if_neg (fun z => e (by injection z with z1 z2; injection z2))]
  have vq : ∀ q i, S'.2.2.1 (26, j, q) i = if q = kn S j then pw0 (kw S j r) (kw S j (1 - r)) i else S.2.2.1 (26, j, q) i := fun q i => by
    rw [← eS, cadd_w]
    by_cases e : q = kn S j
    · simp [e]
    · rw [if_neg e, if_neg (fun z => e (by injection z with z1 z2; injection z2)), if_neg (fun z => by injection z.1 with z1; exact absurd z1 (by decide))]
  have v1 : ∀ l, S'.1 (22, j, 0) l = if l = kw S j 5 + 1 then S.1 (22, j, 0) (kw S j 5) + (if r = 0 then -am else 0) else S.1 (22, j, 0) l := fun l => by
    rw [← eS, cadd_i _ _ _ _ _ _ _ _ _ _ (by simp), if_neg (by simp), cst_22]
    have e : (nI (kw S j r) = nI (kw S j 0)) = (r = 0) := by
      obtain ⟨-, -, e1, e2, e3⟩ := c1
      rcases (by omega : r = 0 ∨ r = 1) with rfl | rfl
      · simp
      · rw [xn_inj (by omega) (by omega)]
        simp
        omega
    simp [e]
  have v2 : ∀ l, S'.1 (23, j, 0) l = if l = kw S j 5 + 1 then S.1 (23, j, 0) (kw S j 5) + (if r = 1 then -am else 0) else S.1 (23, j, 0) l := fun l => by
    rw [← eS, cadd_i _ _ _ _ _ _ _ _ _ _ (by simp), if_neg (by simp), cst_23]
    have e : (nI (kw S j r) = nI (kw S j 1)) = (r = 1) := by
      obtain ⟨-, -, e1, e2, e3⟩ := c1
      rcases (by omega : r = 0 ∨ r = 1) with rfl | rfl
      · rw [xn_inj (by omega) (by omega)]
        simp
        omega
      · simp
    simp [e]
  have vn : S'.2.2.2 (24, j, 0) 0 = kn S j + 1 := by rw [← eS]; exact cadd_n _ _ _ _ _ _ _ _ _
  have hn63 := c2.2.2.2
  have pold : ∀ l q, q < kn S j → pin S' j l q = pin S j l q := fun l q hq => by
    unfold pin kp
    rw [vp, vp, if_neg (by omega), if_neg (by omega)]
  have pnew : ∀ l, l < 64 → pin S' j l (kn S j) = decide (l = kw S j 5 + 1 ∨ kw S j 5 + 1 < l) := fun l hl => by
    unfold pin kp
    rw [vp, vp, if_pos rfl, if_pos rfl]
    show isIn0 (nI (kw S j 5 + 1)) (-1) (nI l) = _
    rw [isIn0_n (by omega) (by omega)]
    exact decide_eq_decide.mpr ⟨fun z => by omega, fun z => by omega⟩
  have vam : ∀ q, q < kn S j → pam S' j q = pam S j q := fun q hq => by
    unfold pam kp
    rw [vp, if_neg (by omega)]
  have vamn : pam S' j (kn S j) = am.toInt := by
    unfold pam kp
    rw [vp, if_pos rfl]
    rfl
  obtain ⟨t1, t2, t3, t4, -⟩ := C9.top (l := kw S j 5) (k := 0) c6 c9 (Nat.le_refl _)
  have ps : ∀ l, l < 64 → psum S' j l = psum S j l + (if l = kw S j 5 + 1 ∨ kw S j 5 + 1 < l then am.toInt else 0) := fun l hl => by
    show sm (pin S' j l) (pam S' j) (S'.2.2.2 (24, j, 0) 0) = sm (pin S j l) (pam S j) (kn S j) + _
    rw [vn]
    show (if pin S' j l (kn S j) = true then sm (pin S' j l) (pam S' j) (kn S j) + pam S' j (kn S j) else sm (pin S' j l) (pam S' j) (kn S j)) = _
    rw [pnew l hl, vamn, sm_ext (q := pin S j l) (g := pam S j) (kn S j) (fun i hi => pold l i hi) (fun i hi _ => vam i hi)]
    by_cases e : l = kw S j 5 + 1 ∨ kw S j 5 + 1 < l
    · rw [if_pos (decide_eq_true e), if_pos e]
    · rw [if_neg (by simp only [decide_eq_true_eq]; exact e), if_neg e]
      omega
  refine ⟨⟨?_, ?_, ?_, ?_, ?_, ?_, ?_, ?_, ?_⟩, ?_⟩
  rotate_left 9
  · unfold kw kn
    rw [v5, vn]
    have e : cnt (pin S' j (kw S j 5 + 1)) (kn S j) = cnt (pin S j (kw S j 5)) (kn S j) := cnt_ext _ (fun i hi => by
      rw [pold _ i hi]
      exact c6.next c2 hi)
    show (if pin S' j (kw S j 5 + 1) (kn S j) = true then cnt (pin S' j (kw S j 5 + 1)) (kn S j) + 1 else cnt (pin S' j (kw S j 5 + 1)) (kn S j)) ≤ cnt (pin S j (kw S j 5)) (kn S j) + 1
    rw [e]
    split <;> omega
  · unfold C1 kw
    rw [madd_i _ _ _ _ _ _ _ _ _ (by decide), madd_i _ _ _ _ _ _ _ _ _ (by decide), vw 0 (by decide), vw 1 (by decide)]
    exact c1
  · unfold C2
    rw [madd_9, if_pos rfl, (madd_p _ _ _ _ _ _ _ _ _).1, if_pos rfl]
    unfold kw kn
    rw [v5, vn]
    exact ⟨rfl, by omega, rfl, by omega⟩
  · unfold C3 kf
    rw [madd_i _ _ _ _ _ _ _ _ _ (by decide), madd_i _ _ _ _ _ _ _ _ _ (by decide), madd_i _ _ _ _ _ _ _ _ _ (by decide), madd_i _ _ _ _ _ _ _ _ _ (by decide), madd_i _ _ _ _ _ _ _ _ _ (by decide)]
    simp only [vf]
    exact c3
  · unfold C4 kf
    simp only [vf]
    have h9 := (c4.2.1 h0).1
    exact ⟨Or.inl h9, c4.2⟩
  · intro l hl
    unfold kw at hl
    rw [v5] at hl
    rw [madd_10 _ _ _ _ _ _ _ _ _ (by decide), madd_10 _ _ _ _ _ _ _ _ _ (by decide), v1, v2]
    by_cases e : l = kw S j 5 + 1
    · simp only [if_pos e]
      obtain ⟨z1, z2⟩ := c5 (kw S j 5) (Nat.le_refl _)
      rw [z1, z2]
      rcases (by omega : r = 0 ∨ r = 1) with rfl | rfl
      · exact ⟨rfl, rfl⟩
      · exact ⟨rfl, rfl⟩
    · simp only [if_neg e]
      exact c5 l (by omega)
  · intro k hk
    unfold kn at hk
    rw [vn] at hk
    obtain ⟨-, m1, m2, m3⟩ := madd_p A j (kw S j 5) (kn S j) (nI r) am lo dl k
    have m4 : (madd A j (kw S j 5) (kn S j) (nI r) am lo dl).2.2 16 (64 * j + k) = if k = kn S j then lo else A.2.2 16 (64 * j + k) := by
      rw [madd_j, if_neg (fun z => absurd z.1 (by decide))]
      by_cases e : k = kn S j
      · rw [if_pos ⟨rfl, by omega⟩, if_pos e]
      · rw [if_neg (fun z => e (by omega)), if_neg e]
    rw [m1, m2, m3, m4, vg]
    unfold kq kw kp
    rw [vq, vq, vw 0 (by decide), vw 1 (by decide), v5, vp, vp, vp, vp]
    by_cases e : k = kn S j
    · subst e
      simp only [if_pos]
      rw [vamn]
      refine ⟨?_, by first | trivial | rfl, by first | trivial | rfl, by first | trivial | rfl, ha, kw S j 5 + 1, Nat.le_refl _, rfl, Or.inl rfl⟩
      rcases (by omega : r = 0 ∨ r = 1) with rfl | rfl
      · exact Or.inl ⟨rfl, rfl, rfl⟩
      · exact Or.inr ⟨rfl, rfl, rfl⟩
    · rw [vam k (by omega)]
      simp only [if_neg e]
      obtain ⟨b1, b2, b3, b4, b5, a, b6, b7, b8⟩ := c6 k (by omega)
      refine ⟨b1, b2, b3, b4, b5, a, by omega, b7, ?_⟩
      rcases b8 with b8 | ⟨e, d1, d2, d3⟩
      · exact Or.inl b8
      · exact Or.inr ⟨e, d1, by omega, d3⟩
  · intro l hl q hq
    unfold kw at hl
    rw [v5] at hl
    rw [madd_j]
    show _ = (decide (q < S'.2.2.2 (24, j, 0) 0) && pin S' j l q)
    rw [vn]
    by_cases e : l = kw S j 5 + 1
    · subst e
      rw [if_pos ⟨rfl, by omega⟩, gb_add _ (by omega) _ hq, c7 _ (Nat.le_refl _) q hq]
      by_cases hq' : q < kn S j
      · rw [pold _ q hq']
        have hz := c6.next c2 hq'
        have hz' : pin S j (kw S j 5 + 1) q = pin S j (kw S j 5) q := hz
        rw [hz', decide_eq_true hq', decide_eq_true (show q < kn S j + 1 by omega), decide_eq_false (show ¬ q = kn S j by omega)]
        simp only [Bool.true_and, Bool.or_false]
      · by_cases hq2 : q = kn S j
        · subst hq2
          rw [pnew _ (by omega), decide_eq_true (Or.inl rfl), decide_eq_true (show kn S j < kn S j + 1 by omega), decide_eq_true rfl, decide_eq_false hq']
          simp only [Bool.false_and, Bool.and_false, Bool.true_and, Bool.or_true, Bool.or_false, Bool.false_or, Bool.and_true]
        · rw [decide_eq_false hq', decide_eq_false hq2, decide_eq_false (show ¬ q < kn S j + 1 by omega)]
          simp only [Bool.false_and, Bool.and_false, Bool.true_and, Bool.or_true, Bool.or_false, Bool.false_or, Bool.and_true]
    · rw [if_neg (fun z => e (by omega)), if_neg (fun z => absurd z.1 (by decide)), c7 l (by omega) q hq]
      by_cases hq' : q < kn S j
      · rw [pold l q hq', decide_eq_true hq', decide_eq_true (show q < kn S j + 1 by omega)]
      · by_cases hq2 : q = kn S j
        · subst hq2
          rw [pnew _ (by omega), decide_eq_false (show ¬ (l = kw S j 5 + 1 ∨ kw S j 5 + 1 < l) by omega), decide_eq_false hq', Bool.and_false]
          simp only [Bool.false_and, Bool.and_false, Bool.true_and, Bool.or_true, Bool.or_false, Bool.false_or, Bool.and_true]
        · rw [decide_eq_false hq', decide_eq_false (show ¬ q < kn S j + 1 by omega)]
          simp only [Bool.false_and, Bool.and_false, Bool.true_and, Bool.or_true, Bool.or_false, Bool.false_or, Bool.and_true]
  · unfold C8 kf kp
    rw [vf]
    have h9 := (c4.2.1 h0).1
    have h9' : S.1 (21, j, 0) 9 = -1 := h9
    refine ⟨fun _ q hq => ?_, fun q hq z => ?_⟩
    · rw [vp]
      unfold kn at hq
      rw [vn] at hq
      by_cases e : q = kn S j
      · rw [if_pos e]
        rfl
      · rw [if_neg e]
        exact c8.1 h9 q (by omega)
    · rw [h9'] at z
      unfold kw at hq
      rw [v5] at hq
      exact absurd z.symm (nI_m1 (by omega))
  · obtain ⟨T, hT, hbb, h1, h2, h3⟩ := c9
    refine ⟨T, hT, fun l hl => ?_, ?_, ?_, ?_⟩
    · unfold kw at hl
      rw [v5] at hl
      rw [v1, v2, ps l (by omega)]
      by_cases e : l = kw S j 5 + 1
      · subst e
        rw [if_pos rfl, if_pos rfl, if_pos (Or.inl rfl)]
        have hs : psum S j (kw S j 5 + 1) = psum S j (kw S j 5) := sm_ext _ (fun i hi => c6.next c2 hi) (fun i _ _ => rfl)
        obtain ⟨h4, h5, h6⟩ := hbb _ (Nat.le_refl _)
        rw [hs]
        rcases (by omega : r = 0 ∨ r = 1) with rfl | rfl
        · have := hb.1 rfl
          have hneg := i_neg (x := am) (by omega)
          rw [if_pos rfl, if_neg (by decide), Int32.add_zero, i_add (by omega) (by omega), hneg]
          exact ⟨by omega, h5, by omega⟩
        · have := hb.2 rfl
          have hneg := i_neg (x := am) (by omega)
          rw [if_neg (by decide), if_pos rfl, Int32.add_zero, i_add (by omega) (by omega), hneg]
          exact ⟨h4, by omega, by omega⟩
      · rw [if_neg e, if_neg e, if_neg (by omega)]
        have := hbb l (by omega)
        omega
    · unfold kf
      rw [vf, vf]
      exact h1
    · unfold kf
      rw [vf]
      intro z
      have : (kf S j 6) = 1 := z
      rw [h0] at this
      exact absurd this (by decide)
    · unfold kf
      rw [vf, vf]
      exact h3
