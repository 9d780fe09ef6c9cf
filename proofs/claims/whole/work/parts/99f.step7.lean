/- Part 99f: class and model side by side: a payment goes back. -/
theorem cendA_kP (S : CS) (j q : Nat) (w : Int32) : kP (cendA S j q w) = kP S := by
  unfold kP
  rw [cendA_z]
/-- a promise of a payment ends -/
theorem Cpl.endA {S : CS} {A : MS} {j q : Nat} {w : Int32} (C : Cpl S A) (hj : j < kC S) (hq : q < kn S j) (hin : pin S j (kw S j 5) q = true) (hL : kw S j 5 < 63) (h0 : kf S j 6 = 0) (hk : w = 1 → chas S (S.2.1 (26, j, q) 0) = true) : Cpl (cendA S j q w) (if w = 1 then mkeep A j (kw S j 5) q (S.2.2.1 (6, 0, 0) 0) else mdrop A j (kw S j 5) q) := by
  have cc := C.2.2.1.2.2.1 _ hj
  obtain ⟨-, d1, d2, d3, -⟩ := cc.2.2.2.2.2.1 _ hq
  obtain ⟨r, r1, r2, r3, r4, r5, r6, r7⟩ := cc.2.2.2.2.2.1.ends cc.1 hq
  unfold cendA
  by_cases e : w = 1
  · rw [if_pos e, if_pos e]
    have E := (C.endp hj hq hin hL h0 (show 1 - r < 2 by omega) (show 1 - A.2.1 14 (64 * j + q) = nI (1 - r) from r5) d1 r4).learn (k := S.2.1 (26, j, q) 0) ((1 : Int32) <<< (nI (S.2.2.1 (26, j, q) 0) &&& 31)) (hk e)
    unfold mkeep
    rw [d2, r6]
    exact E
  · rw [if_neg e, if_neg e]
    exact C.endp hj hq hin hL h0 r1 r2 d1 r3
theorem may_eq {S : CS} {A : MS} {p i j q : Nat} (C : Cpl S A) (hj2 : j < kC S) (hq2 : q < kn S j) (h39 : A.2.1 39 (5 * p + i) = S.1 (31, p, 0) i) (h4 : kp S j q 4 = S.1 (31, p, 0) i) (h30 : A.2.1 30 p = S.1 (27, p, 0) 9) : bmay A p i j (kw S j 5) q ↔ cecan S p j q = true := by
  have cc := C.2.2.1.2.2.1 _ hj2
  have hL := cc.2.1.2.1
  have hN := cc.2.1.2.2.2
  unfold bmay cecan ecan
  rw [decide_eq_true_eq, cc.2.2.1.1, cc.lat, h39, h30, ← C.1.1, le_nlt, Classical.not_not, show S.1 (26, j, q) 4 = S.1 (31, p, 0) i from h4]
  have hc : ck (nI q) = q := xn_clamp (by omega)
  rw [hc]
  unfold lAt
  rw [inr0_n (by omega) (by show kn S j < _; omega), decide_eq_true (show q < S.2.2.2 (24, j, 0) 0 from hq2), Bool.true_and]
theorem p_back {S : CS} {A : MS} {p i j q : Nat} (C : Cpl S A) (hp : p < kP S) (hst : S.1 (27, p, 0) 8 = 1 ∨ S.1 (27, p, 0) 8 = 2) (hi : S.2.2.1 (27, p, 0) 11 = i + 1) (hj : S.1 (28, p, 0) i = nI j) (hj2 : j < kC S) (hq : S.1 (32, p, 0) i = nI q) (hq2 : q < kn S j) :
    (S.1 (27, p, 0) 9 = 1 → chas S (S.2.1 (26, j, q) 0) = true) ∧
    (eBack S p j q = some 10 → bmay (mF A 0 0) p i j (kw S j 5) q ∧ ¬ (mF A 0 0).2.1 9 j + 1 < 64) ∧
    (eBack S p j q = none → (bmay (mF A 0 0) p i j (kw S j 5) q → (mF A 0 0).2.1 9 j + 1 < 64 ∧ Cpl (cback S p i j q) (bback (bend (mF A 0 0) p j (kw S j 5) q (S.2.2.1 (6, 0, 0) 0)) p) ∧ (bback (bend (mF A 0 0) p j (kw S j 5) q (S.2.2.1 (6, 0, 0) 0)) p).2.1 29 p = if i = 0 then 3 else S.1 (27, p, 0) 8) ∧ (¬ bmay (mF A 0 0) p i j (kw S j 5) q → Cpl (cback S p i j q) (bback (mF A 0 0) p) ∧ (bback (mF A 0 0) p).2.1 29 p = if i = 0 then 3 else S.1 (27, p, 0) 8)) := by
  have C0 := C.F0 0
  have cc := C0.2.2.1.2.2.1 _ hj2
  have hL := cc.2.1.2.1
  have hN := cc.2.1.2.2.2
  have h8 := C.2.2.1.2.1
  obtain ⟨⟨a1, a2, a3, a4, a5, a6, a7, a8⟩, ⟨b1, b2, b3, b4⟩, b5, b6, b7⟩ := C0.2.2.2.2.1.2.2.1 p hp
  obtain ⟨c, v', z1, z2, z3, z4, z5, z6, z7, z8, z9, z10⟩ := b7 i (by omega)
  obtain ⟨q', u1, u2, u3, u4, u5⟩ := z10 (by omega)
  have ec : c = j := by
    rw [hj, xn_inj (by omega) (by omega)] at z3
    exact z3.symm
  subst ec
  have eq : q' = q := by
    rw [hq, xn_inj (by omega) (by omega)] at u2
    exact u2.symm
  subst eq
  have hk : S.1 (27, p, 0) 9 = 1 → chas S (S.2.1 (26, c, q') 0) = true := fun z => by
    rw [u5]
    exact chas_of (b6 z)
  have hm := may_eq (i := i) C0 hj2 hq2 z9 u4 a2
  have hrm := cc.room
  refine ⟨hk, fun z => ?_, fun z => ⟨fun hb => ?_, fun hb => ?_⟩⟩
  · unfold eBack at z
    by_cases h : cecan S p c q' = true ∧ ¬ nI (S.2.2.1 (21, c, 0) 5) < 63
    · exact ⟨hm.mpr h.1, fun y => h.2 (hrm.mp y)⟩
    · rw [if_neg h] at z
      cases z
  · have hcan := hm.mp hb
    have hR : nI (S.2.2.1 (21, c, 0) 5) < 63 := by
      refine Classical.byContradiction (fun h => ?_)
      unfold eBack at z
      rw [if_pos ⟨hcan, h⟩] at z
      cases z
    have hL63 : kw S c 5 < 63 := (xn_lt (by omega) (by decide)).mp hR
    refine ⟨hrm.mpr hR, ?_⟩
    have hcan' := hcan
    unfold cecan ecan at hcan'
    obtain ⟨k1, k2, k3⟩ := of_decide_eq_true hcan'
    have E := C0.endA (w := S.1 (27, p, 0) 9) hj2 hq2 k2 hL63 k1 hk
    have eb : bend (mF A 0 0) p c (kw S c 5) q' (S.2.2.1 (6, 0, 0) 0) = mI (if S.1 (27, p, 0) 9 = 1 then mkeep (mF A 0 0) c (kw S c 5) q' (S.2.2.1 (6, 0, 0) 0) else mdrop (mF A 0 0) c (kw S c 5) q') 33 p (S.1 (27, p, 0) 12 + 1) := by
      unfold bend
      rw [a2, a5]
      by_cases e : S.1 (27, p, 0) 9 = 1
      · rw [if_pos e, if_pos e, mkeep33]
      · rw [if_neg e, if_neg e, mdrop33]
    rw [eb]
    unfold cback
    rw [if_pos hcan]
    obtain ⟨t1, t2, t3⟩ := cendA_27 S c q' p (S.1 (27, p, 0) 9)
    exact E.goback (by rw [cendA_kP]; exact hp) t1 t2 t3 hi hst
  · have hcan : ¬ cecan S p c q' = true := fun y => hb (hm.mpr y)
    unfold cback
    rw [if_neg hcan]
    have G := C0.goback (en := S.1 (27, p, 0) 12) hp rfl rfl rfl hi hst
    rw [← a5, mI_id, a5] at G
    exact G
