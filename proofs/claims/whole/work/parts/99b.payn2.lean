/- Part 99b: class and model side by side: a new payment, the end. -/
def cpyn (S : CS) (N tn : Nat) (lo : Int64) (dl : Int32) (c : Nat) (mo : Int32) : CS := czl (cpy0 S (kP S) N tn lo dl) (10, 0, 0) (kP S + 1) c mo
section X99b
variable (S : CS) (N tn : Nat) (lo : Int64) (dl : Int32) (c : Nat) (mo : Int32)
theorem cpyn_P : kP (cpyn S N tn lo dl c mo) = kP S + 1 := by
  unfold kP cpyn czl zset
  simp
theorem cpyn_i (r : RO) (h : r ≠ (10, 0, 0)) (h2 : ∀ k, 27 ≤ k → k ≤ 32 → r ≠ (k, kP S, 0)) : (cpyn S N tn lo dl c mo).1 r = S.1 r := by
  unfold cpyn czl cpy0
  simp only
  rw [if_neg h, if_neg (h2 27 (by decide) (by decide)), if_neg (h2 28 (by decide) (by decide)), if_neg (h2 29 (by decide) (by decide)), if_neg (h2 30 (by decide) (by decide)), if_neg (h2 31 (by decide) (by decide)), if_neg (h2 32 (by decide) (by decide))]
theorem cpyn_g (r : RO) (h : r ≠ (27, kP S, 0)) : (cpyn S N tn lo dl c mo).2.1 r = S.2.1 r := by
  show (if r = (27, kP S, 0) then (fun _ => lo) else S.2.1 r) = _
  rw [if_neg h]
theorem cpyn_w (r : RO) (h : r ≠ (27, kP S, 0)) : (cpyn S N tn lo dl c mo).2.2.1 r = S.2.2.1 r := by
  show (if r = (27, kP S, 0) then (fun i => if i = 0 then tn else 0) else S.2.2.1 r) = _
  rw [if_neg h]
theorem cpyn_z (r : RO) (h : r ≠ (10, 0, 0)) (h2 : r ≠ (27, kP S, 0)) : (cpyn S N tn lo dl c mo).2.2.2 r = S.2.2.2 r := by
  unfold cpyn czl zset cpy0
  simp only
  rw [if_neg h, if_neg h2]
theorem cpyn_sk : sk (fun k => k = 10 ∨ 27 ≤ k ∧ k ≤ 32) S (cpyn S N tn lo dl c mo) := fun r hr => by
  have n2 : ∀ k, 27 ≤ k → k ≤ 32 → r ≠ (k, kP S, 0) := fun k h1 h2 z => hr (by rw [z]; exact Or.inr ⟨h1, h2⟩)
  exact ⟨cpyn_i S N tn lo dl c mo r (fun z => hr (by rw [z]; exact Or.inl rfl)) n2, cpyn_g S N tn lo dl c mo r (n2 27 (by decide) (by decide)), cpyn_w S N tn lo dl c mo r (n2 27 (by decide) (by decide))⟩
theorem cpyn_27 : (cpyn S N tn lo dl c mo).1 (27, kP S, 0) = (fun _ => 0) ∧ (cpyn S N tn lo dl c mo).2.1 (27, kP S, 0) = (fun _ => lo) ∧ (cpyn S N tn lo dl c mo).2.2.1 (27, kP S, 0) = (fun i => if i = 0 then tn else 0) ∧ (cpyn S N tn lo dl c mo).2.2.2 (27, kP S, 0) = (fun i => if i = 0 then N else 0) := by
  unfold cpyn czl zset cpy0
  simp
theorem cpyn_28 : (cpyn S N tn lo dl c mo).1 (28, kP S, 0) = rv (S.1 (12, 0, 0)) N N ∧ (cpyn S N tn lo dl c mo).1 (29, kP S, 0) = rv (S.1 (13, 0, 0)) N N ∧ (cpyn S N tn lo dl c mo).1 (30, kP S, 0) = rv (S.1 (14, 0, 0)) N N ∧ (cpyn S N tn lo dl c mo).1 (31, kP S, 0) = fdc (S.1 (4, 0, 0)) (rv (S.1 (13, 0, 0)) N N) dl N N := by
  unfold cpyn czl zset cpy0
  simp
end X99b
theorem mpay_ak (A : MS) (P : Nat) (to : Int32) (lo : Int64) (dd : Int32) (B : SP) : ak (fun j => j = 34) (fun k => 34 ≤ k ∧ k ≤ 41) A (mpay A P to lo dd B) := by
  unfold mpay
  obtain ⟨a1, a2, a3, a4, a5⟩ := pwA_fr (P := P) (N := B.length) (dd := dd) (A := mJ (mI (mI (mF A 34 (nI P + 1)) 34 P (nI B.length)) 35 P to) 36 P lo) B (Nat.le_refl _)
  have b0 : ak (fun j => j = 34) (fun k => 34 ≤ k ∧ k ≤ 41) A (mF A 34 (nI P + 1)) := ak.F (F := fun j => j = 34) (ak.refl _ _ A) rfl
  have b : ak (fun j => j = 34) (fun k => 34 ≤ k ∧ k ≤ 41) A (mJ (mI (mI (mF A 34 (nI P + 1)) 34 P (nI B.length)) 35 P to) 36 P lo) := ((b0.I (by decide)).I (by decide)).J (by decide)
  refine ⟨fun j hj => by rw [a1]; exact b.1 j hj, fun k hk => ⟨?_, by rw [a2]; exact (b.2 k hk).2⟩⟩
  rcases Nat.lt_or_ge k 37 with z | z
  · rw [a3 k z]
    exact (b.2 k hk).1
  · have b1 := (b.2 k hk).1
    rw [← b1]
    clear b1 a1 a2 a3 a4 a5 b b0
    generalize mJ (mI (mI (mF A 34 (nI P + 1)) 34 P (nI B.length)) 35 P to) 36 P lo = A2
    have h41 : 41 < k := by omega
    generalize B.length = N
    induction B with
    | nil => rfl
    | cons x T ih =>
      unfold pwA
      funext i
      rw [mI_i, if_neg (by omega), mI_i, if_neg (by omega), mI_i, if_neg (by omega), mI_i, if_neg (by omega), ih]
theorem Cpl.payn {S : CS} {A : MS} {B : SP} {tn : Nat} {lo : Int64} {dl : Int32} (C : Cpl S A) (h16 : kP S < 16) (hb : bestB S B) (hB : amt1 S B) (ht : tn < 6) (c0 : Nat) (mo : Int32) : Cpl (cpyn S B.length tn lo dl c0 mo) (mpay A (kP S) (nI tn) lo dl B) := by
  obtain ⟨x1, x2, x3, x4, x5, x6, x7⟩ := C
  have s := cpyn_sk S B.length tn lo dl c0 mo
  have a := mpay_ak A (kP S) (nI tn) lo dl B
  have hz : ∀ r : RO, r.1 ≠ 10 → r.1 ≠ 27 → (cpyn S B.length tn lo dl c0 mo).2.2.2 r = S.2.2.2 r := fun r h1 h2 => cpyn_z _ _ _ _ _ _ _ r (fun z => h1 (by rw [z])) (fun z => h2 (by rw [z]))
  have hC : kC (cpyn S B.length tn lo dl c0 mo) = kC S := by
    unfold kC
    rw [hz _ (by show 9 ≠ 10; omega) (by show 9 ≠ 27; omega)]
  have hn : ∀ c, (cpyn S B.length tn lo dl c0 mo).2.2.2 (24, c, 0) 0 = S.2.2.2 (24, c, 0) 0 := fun c => by rw [hz _ (by show 24 ≠ 10; omega) (by show 24 ≠ 27; omega)]
  have hM : Mon S (cpyn S B.length tn lo dl c0 mo) := mon_sk s (fun k h => by omega) (Nat.le_of_eq hC.symm) (fun c => Nat.le_of_eq (hn c).symm)
  obtain ⟨m1, m2, m3, m4, m5⟩ := pwA_fr (P := kP S) (N := B.length) (dd := dl) (A := mJ (mI (mI (mF A 34 (nI (kP S) + 1)) 34 (kP S) (nI B.length)) 35 (kP S) (nI tn)) 36 (kP S) lo) B (Nat.le_refl _)
  have hB5 := hb.2.1
  refine ⟨x1.fr s a (fun k h => by omega) (by decide) (fun k h1 h2 => by omega), x2.fr s a (by decide) (by decide) (by decide), x3.all hC (a.1 7 (by decide)) (fun j => sk_chS s (fun k h1 h2 => by omega) hn j) (fun j => ak_chM a (fun k h1 h2 => by omega) j), x4.fr ((s (1, 0, 0) (by decide)).1) hC (fun j _ => by unfold kf; rw [(s (21, j, 0) (by show ¬ (21 = 10 ∨ 27 ≤ 21 ∧ 21 ≤ 32); omega)).1]), ?_, x6.fr s a (fun k h1 h2 => by omega) ⟨by decide, by decide⟩ (by decide), x7.all hC (fun j => sk_chS s (fun k h1 h2 => by omega) hn j)⟩
  unfold XP
  rw [cpyn_P]
  refine ⟨?_, by omega, fun p hp => ?_, fun p h1 h2 => ?_⟩
  · unfold mpay
    rw [m1]
    show nI (kP S) + 1 = _
    exact xn_succ _
  · by_cases e : p = kP S
    · subst e
      obtain ⟨r1, r2, r3, r4⟩ := cpyn_27 S B.length tn lo dl c0 mo
      obtain ⟨q1, q2, q3, q4⟩ := cpyn_28 S B.length tn lo dl c0 mo
      obtain ⟨p1, p2, p3, p4, p5⟩ := x5.2.2.2 (kP S) (Nat.le_refl _) h16
      unfold YY
      rw [r1, r2, r3, r4, q1, q2, q3, q4, hC]
      unfold mpay
      rw [m3 29 (by decide), m3 30 (by decide), m3 31 (by decide), m3 32 (by decide), m3 33 (by decide), m3 34 (by decide), m3 35 (by decide), m2]
      refine ⟨⟨?_, ?_, ?_, ?_, ?_, ?_, ?_, ?_⟩, ⟨hB5, ht, Nat.zero_le _, Nat.le_refl _⟩, Or.inl rfl, fun z => absurd z (by decide), fun i hi => ?_⟩
      · exact p1
      · exact p2
      · exact p3
      · exact p4
      · exact p5
      · rw [mJ_i, mI_i, if_neg (by omega), mI_i, if_pos ⟨rfl, rfl⟩]
        rfl
      · rw [mJ_i, mI_i, if_pos ⟨rfl, rfl⟩]
        rfl
      · rw [mJ_j, if_pos ⟨rfl, rfl⟩]
      · have hi' : i < B.length := hi
        obtain ⟨X, e, T, b1, b2⟩ := list_at hi'
        have bl : B.length = X.length + T.length + 1 := by
          rw [b1]
          exact len_app X e T
        have hY := hb.2.2
        rw [b1] at hY
        have hY' := hY.suf
        obtain ⟨y1, y2, y3, y4, y5⟩ := hY'
        obtain ⟨k1, k2, k3⟩ := hB e (by rw [b1]; exact List.mem_append_right _ (List.mem_cons_self ..))
        obtain ⟨w1, w2, w3, w4⟩ := pwA_at (P := kP S) (N := B.length) (dd := dl) (A := mJ (mI (mI (mF A 34 (nI (kP S) + 1)) 34 (kP S) (nI B.length)) 35 (kP S) (nI tn)) 36 (kP S) lo) (e := e) (T := T) (X := X) (by rw [← b1]; exact Nat.le_refl _)
        rw [← b1, show B.length - 1 - T.length = i by omega] at w1 w2 w3 w4
        have t1 : B.length - 1 - i = T.length := by omega
        have amv : (S.1 (14, 0, 0) T.length).toInt = e.2.2.toInt := by
          rw [← y4, Int32.toInt_toInt64]
        rw [w1, w2, w3, w4, rv_lt hi', rv_lt hi', rv_lt hi', t1, y1, y3, fdc_at hi' _ (Nat.le_refl _) (by omega), t1, x1.2.2.2.2.1]
        have hv : ∃ v, (v = kw S e.1 0 ∨ v = kw S e.1 1) ∧ e.2.1 = nI v := by
          rcases k2 with z | z
          · exact ⟨_, Or.inl rfl, z⟩
          · exact ⟨_, Or.inr rfl, z⟩
        obtain ⟨v, v1, v2⟩ := hv
        have sw : ∀ c i, kw (cpyn S B.length tn lo dl c0 mo) c i = kw S c i := fun c i => by
          unfold kw
          rw [(s (21, c, 0) (by show ¬ (21 = 10 ∨ 27 ≤ 21 ∧ 21 ≤ 32); omega)).2.2]
        refine ⟨e.1, v, k1, by rw [sw, sw]; exact v1, rfl, rfl, v2, v2, ?_, by rw [amv]; exact k3, ?_, fun z => absurd z (by show ¬ i < 0; omega)⟩
        · rw [← y4, i64_i32]
        · exact (fdu_eq (L := B.length) y5 (by omega)).symm
    · refine (x5.2.2.1 p (by omega)).fr hM (fun k h1 h2 => ?_) ?_ ?_ ?_ (fun k h1 h2 => ?_) ?_ (fun k i h1 h2 h3 => ?_)
      · exact cpyn_i _ _ _ _ _ _ _ _ (fun z => by injection z with z1 z2; omega) (fun k' _ _ z => e (by injection z with z1 z2; injection z2))
      · exact cpyn_g _ _ _ _ _ _ _ _ (fun z => e (by injection z with z1 z2; injection z2))
      · exact cpyn_w _ _ _ _ _ _ _ _ (fun z => e (by injection z with z1 z2; injection z2))
      · exact cpyn_z _ _ _ _ _ _ _ _ (by simp) (fun z => e (by injection z with z1 z2; injection z2))
      · unfold mpay
        rw [m3 k (by omega), mJ_i, mI_i, if_neg (fun z => e z.2), mI_i, if_neg (fun z => e z.2)]
        rfl
      · unfold mpay
        rw [m2, mJ_j, if_neg (fun z => e z.2)]
        rfl
      · unfold mpay
        rw [m5 k _ (by omega), mJ_i, mI_i, if_neg (by omega), mI_i, if_neg (by omega)]
        rfl
  · have q := x5.2.2.2 p (by omega) h2
    unfold pfr mpay at *
    rw [m3 29 (by decide), m3 30 (by decide), m3 31 (by decide), m3 32 (by decide), m3 33 (by decide)]
    exact q
theorem p_pay {S : CS} {A : MS} {f t a dl : Int32} (C : Cpl S A) : tPay A f t a dl = cd [8, 9, 10] (ePayC S f t a dl) := by
  unfold tPay ePayC eEnds
  have h34 : A.1 34 = 16 ↔ ¬ S.2.2.2 (10, 0, 0) 0 < 16 := by
    have := C.2.2.2.2.1.2.1
    rw [C.2.2.2.2.1.1, show (16 : Int32) = nI 16 from rfl, xn_inj (by omega) (by decide)]
    show kP S = 16 ↔ ¬ kP S < 16
    omega
  by_cases h1 : nd f = true ∧ nd t = true
  · rw [if_pos h1, if_pos h1]
    by_cases h2 : ispr f t a = true
    · rw [if_pos h2]
      by_cases h3 : 0 ≤ dl ∧ dl ≤ 1000000000
      · rw [if_pos ⟨h2, h3.1, h3.2⟩]
        simp only [if_pos h3]
        by_cases h4 : S.2.2.2 (10, 0, 0) 0 < 16
        · rw [if_neg (fun z => h34.mp z h4), if_pos h4]
          rfl
        · rw [if_pos (h34.mpr h4), if_neg h4]
          rfl
      · rw [if_neg (fun z => h3 ⟨z.2.1, z.2.2⟩)]
        simp only [if_neg h3]
        rfl
    · rw [if_neg h2, if_neg (fun z => h2 z.1)]
      rfl
  · rw [if_neg h1, if_neg h1]
    rfl
theorem pay_of {S : CS} {f t a dl : Int32} (h : ePayC S f t a dl = none) : eEnds f t a = none ∧ kP S < 16 := by
  unfold ePayC at h
  cases he : eEnds f t a with
  | some ci => rw [he] at h; cases h
  | none =>
    rw [he] at h
    simp only at h
    refine ⟨rfl, ?_⟩
    by_cases h3 : 0 ≤ dl ∧ dl ≤ 1000000000
    · rw [if_pos h3] at h
      by_cases h4 : S.2.2.2 (10, 0, 0) 0 < 16
      · exact h4
      · rw [if_neg h4] at h
        cases h
    · rw [if_neg h3] at h
      cases h
