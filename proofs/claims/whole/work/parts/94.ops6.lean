/- Part 94: class and model side by side: close, settle, take back, claim. -/
theorem CC.bits {S : CS} {A : MS} {j : Nat} (cc : CC S A j) : bitsN (mnow A j (kw S j 5)) 64 = nI (cnt (pin S j (kw S j 5)) (kn S j)) ∧ (mnow A j (kw S j 5) = 0 ↔ cnt (pin S j (kw S j 5)) (kn S j) = 0) := by
  obtain ⟨c1, c2, c3, c4, c5, c6, c7, c8, c9⟩ := cc
  have hL := c2.2.1
  have hN := c2.2.2.2
  have e : cnt (gb (mnow A j (kw S j 5))) 64 = cnt (pin S j (kw S j 5)) (kn S j) := by
    unfold mnow
    rw [cnt_ext (q := fun k => decide (k < kn S j) && pin S j (kw S j 5) k) 64 (fun i hi => c7 _ (Nat.le_refl _) i hi)]
    have h := cnt_more (p := fun k => decide (k < kn S j) && pin S j (kw S j 5) k) (n := kn S j) (64 - kn S j) (fun i h1 _ => by simp only [decide_eq_false (show ¬ i < kn S j by omega), Bool.false_and])
    rw [show kn S j + (64 - kn S j) = 64 by omega] at h
    rw [h]
    exact cnt_ext _ (fun i hi => by simp only [decide_eq_true hi, Bool.true_and])
  refine ⟨by rw [bitsN_cnt _ _ (by omega), e], ?_⟩
  rw [gb_zero, ← e, cnt_zero]
theorem che_to {S : CS} {A : MS} {j l : Nat} (C : Cpl S A) (hj : j < kC S) (hl : l ≤ kw S j 5) (hle : (S.1 (22, j, 0) l).toInt + (S.1 (23, j, 0) l).toInt ≤ (kf S j 7).toInt) : (che S j l).toInt = (kf S j 7).toInt - ((S.1 (22, j, 0) l).toInt + (S.1 (23, j, 0) l).toInt) := by
  have cc := C.2.2.1.2.2.1 _ hj
  obtain ⟨T, hT, hb, -⟩ := cc.2.2.2.2.2.2.2.2
  obtain ⟨b1, b2, -⟩ := hb l hl
  have h6 := (C.2.2.2.1.le C.2.2.1).2 j hj
  unfold che
  have e1 : (S.1 (22, j, 0) l + S.1 (23, j, 0) l).toInt = (S.1 (22, j, 0) l).toInt + (S.1 (23, j, 0) l).toInt := i_add (by omega) (by omega)
  rw [i_sub (by rw [e1]; show -2147483648 ≤ (kf S j 7).toInt - _; omega) (by rw [e1]; show (kf S j 7).toInt - _ ≤ _; omega), e1]
theorem cco_eq {S : CS} {A : MS} {j l : Nat} (C : Cpl S A) (hj : j < kC S) (hl : l ≤ kw S j 5) : cco S j l = upd (upd (A.2.1 1) (kw S j 0) (A.2.1 1 (kw S j 0) + A.2.1 10 (2 * (64 * j + l) + 0))) (kw S j 1) (upd (A.2.1 1) (kw S j 0) (A.2.1 1 (kw S j 0) + A.2.1 10 (2 * (64 * j + l) + 0)) (kw S j 1) + A.2.1 10 (2 * (64 * j + l) + 1)) := by
  have cc := C.2.2.1.2.2.1 _ hj
  obtain ⟨b1, b2⟩ := cc.2.2.2.2.1 l hl
  unfold cco
  rw [b1, b2, C.1.2.1]
theorem Cpl.clos {S : CS} {A : MS} {j : Nat} (C : Cpl S A) (hj : j < kC S) (h0 : kf S j 6 = 0) (he : ∀ k, k < kn S j → pin S j (kw S j 5) k = false) : Cpl (cclose S j) (mclose A j (kw S j 5) (kw S j 0) (kw S j 1)) := by
  have cc := C.2.2.1.2.2.1 _ hj
  obtain ⟨c, hh⟩ := cc.clos (f := kw S j 0) (s := kw S j 1) h0 he
  have m := MM.two C hj (Nat.le_refl _) (Int.le_of_eq hh)
  have C0 := C.F0 0
  refine C0.coinC (he := fun i => if i = j then (kf S j 7).toInt - ((S.1 (22, j, 0) (kw S j 5)).toInt + (S.1 (23, j, 0) (kw S j 5)).toInt) else (kf S i 7).toInt) hj (fun r h1 _ => (cbal_same S _ _ r h1).1) (fun q i _ => by rw [(cbal_same S _ _ (26, j, q) (by show 26 ≠ 1; omega)).1]) (fun r => ?_) rfl ?_ c ?_ ?_ ?_ ?_ (fun j' h => mclose_chM (mF A 0 0) h)
  · unfold cbal
    rw [cset_g, cset_w]
    by_cases z : r = (1, 0, 0)
    · rw [if_pos z, if_pos z, z]
      exact ⟨rfl, rfl⟩
    · rw [if_neg z, if_neg z]
      exact ⟨rfl, rfl⟩
  · unfold mclose
    exact ((((ak.refl _ _ (mF A 0 0)).I (Or.inl rfl)).I (Or.inl rfl)).I (by decide)).I (by decide)
  · unfold cbal
    rw [cset_f, if_pos rfl, cco_eq C hj (Nat.le_refl _)]
    rfl
  · unfold cbal
    rw [cset_f, if_pos rfl]
    exact m
  · rw [if_pos rfl]
    show (che S j (kw S j 5)).toInt = _
    rw [che_to C hj (Nat.le_refl _) (Int.le_of_eq hh)]
  · intro i hi
    rw [if_neg hi]
theorem p_close {S : CS} {A : MS} {c : Int32} (C : Cpl S A) : tClose A c (ck c) (kw S (ck c) 5) = cd [8, 10] (eClose S c (ck c)) ∧ (eClose S c (ck c) = none → Cpl (cclose S (ck c)) (mclose A (ck c) (kw S (ck c) 5) (kw S (ck c) 0) (kw S (ck c) 1))) := by
  have he := isc_eq C.2.2.1 c
  unfold tClose eClose
  rw [he]
  by_cases h1 : cAt S c = true
  · obtain ⟨-, h2⟩ := C.2.2.1.at h1
    have cc := C.2.2.1.2.2.1 _ h2
    have hN : kn S (ck c) ≤ 64 := by
      have := cc.2.1.2.1
      have := cc.2.1.2.2.2
      omega
    have hcn := cnt_le (p := pin S (ck c) (kw S (ck c) 5)) (kn S (ck c))
    have e : cpr (fun k => S.1 (26, ck c, k) 5) (fun k => S.1 (26, ck c, k) 6) (nI (S.2.2.1 (21, ck c, 0) 5)) (S.2.2.2 (24, ck c, 0) 0) = 0 ↔ cnt (pin S (ck c) (kw S (ck c) 5)) (kn S (ck c)) = 0 := by
      rw [cpr_cnt]
      exact xn_inj (n := 0) (by show cnt (pin S (ck c) (kw S (ck c) 5)) (kn S (ck c)) < _; omega) (by decide)
    have hcond : (A.2.1 8 (ck c) ≠ 0 ∨ mnow A (ck c) (kw S (ck c) 5) ≠ 0) ↔ ¬ (S.1 (21, ck c, 0) 6 = 0 ∧ cpr (fun k => S.1 (26, ck c, k) 5) (fun k => S.1 (26, ck c, k) 6) (nI (S.2.2.1 (21, ck c, 0) 5)) (S.2.2.2 (24, ck c, 0) 0) = 0) := by
      rw [cc.2.2.1.1, e, ne_eq, ne_eq, cc.bits.2, Classical.not_and_iff_not_or_not]
    rw [if_pos h1, if_pos h1]
    by_cases h4 : S.1 (21, ck c, 0) 6 = 0 ∧ cpr (fun k => S.1 (26, ck c, k) 5) (fun k => S.1 (26, ck c, k) 6) (nI (S.2.2.1 (21, ck c, 0) 5)) (S.2.2.2 (24, ck c, 0) 0) = 0
    · rw [if_neg (fun z => hcond.mp z h4), if_pos h4]
      exact ⟨rfl, fun _ => C.clos h2 h4.1 ((cnt_zero _).mp (e.mp h4.2))⟩
    · rw [if_pos (hcond.mpr h4), if_neg h4]
      exact ⟨rfl, fun z => by cases z⟩
  · rw [if_neg h1, if_neg h1]
    exact ⟨rfl, fun z => by cases z⟩
theorem mset_coins (A : MS) (j q f s : Nat) : (mset A j q f s).2.1 1 = upd (upd (A.2.1 1) f (A.2.1 1 f + A.2.1 10 (2 * (64 * j + q) + 0))) s (upd (A.2.1 1) f (A.2.1 1 f + A.2.1 10 (2 * (64 * j + q) + 0)) s + A.2.1 10 (2 * (64 * j + q) + 1)) := by
  unfold mset
  simp only
  split <;> rfl
theorem mset_ak (A : MS) (j q f s : Nat) : ak (fun _ => False) (fun k => k = 1 ∨ 8 ≤ k ∧ k ≤ 22) (mF A 0 0) (mset A j q f s) := by
  unfold mset mset1
  simp only
  have a : ak (fun _ => False) (fun k => k = 1 ∨ 8 ≤ k ∧ k ≤ 22) (mF A 0 0) (mI (mF A 0 0) 22 j 1) := (ak.refl _ _ (mF A 0 0)).I (by decide)
  split
  · exact ((((((a.I (Or.inl rfl)).I (by decide)).I (Or.inl rfl)).I (by decide))).I (by decide)).I (by decide)
  · exact (((a.I (Or.inl rfl)).I (by decide)).I (Or.inl rfl)).I (by decide)
theorem Cpl.setl {S : CS} {A : MS} {j q : Nat} (C : Cpl S A) (hj : j < kC S) (h1 : kf S j 6 = 1) (hq : q ≤ kw S j 5) (h9 : kf S j 9 = nI q) (h11 : kf S j 11 = 0) : Cpl (csetl S j q) (mset A j q (kw S j 0) (kw S j 1)) ∧ (mset A j q (kw S j 0) (kw S j 1)).2.1 8 j = cspent (S.1 (21, j, 0) 6) (che S j q) true := by
  have cc := C.2.2.1.2.2.1 _ hj
  obtain ⟨c, hh, h0⟩ := cc.setl (f := kw S j 0) (s := kw S j 1) h1 hq h9 h11
  have hle : (S.1 (22, j, 0) q).toInt + (S.1 (23, j, 0) q).toInt ≤ (kf S j 7).toInt := by omega
  have m := MM.two C hj hq hle
  have C0 := C.F0 0
  refine ⟨?_, by rw [c.2.2.1.1]; unfold csetl; rw [cset_kf, if_pos rfl]; rfl⟩
  refine C0.coinC (he := fun i => if i = j then (kf S j 7).toInt - ((S.1 (22, j, 0) q).toInt + (S.1 (23, j, 0) q).toInt) else (kf S i 7).toInt) hj (fun r h1 _ => (cbal_same S _ _ r h1).1) (fun q i _ => by rw [(cbal_same S _ _ (26, j, q) (by show 26 ≠ 1; omega)).1]) (fun r => ?_) rfl (mset_ak A j q _ _) c ?_ ?_ ?_ ?_ (fun j' h => (show chM A (mset A j q (kw S j 0) (kw S j 1)) j' from mset_chM A h))
  · unfold cbal
    rw [cset_g, cset_w]
    by_cases z : r = (1, 0, 0)
    · rw [if_pos z, if_pos z, z]
      exact ⟨rfl, rfl⟩
    · rw [if_neg z, if_neg z]
      exact ⟨rfl, rfl⟩
  · unfold cbal
    rw [cset_f, if_pos rfl, cco_eq C hj hq, mset_coins]
  · unfold cbal
    rw [cset_f, if_pos rfl]
    exact m
  · rw [if_pos rfl]
    show (che S j q).toInt = _
    exact hh
  · intro i hi
    rw [if_neg hi]
/-- what was published -/
theorem CC.pubd {S : CS} {A : MS} {j : Nat} (cc : CC S A j) (h : kf S j 9 ≠ -1) : ck (kf S j 9) ≤ kw S j 5 ∧ kf S j 9 = nI (ck (kf S j 9)) := by
  rcases cc.2.2.2.1.1 with z | ⟨⟨q, hq, e⟩, -⟩
  · exact absurd z h
  · have hL := cc.2.1.2.1
    have : ck (kf S j 9) = q := by
      rw [e]
      exact xn_clamp (by omega)
    rw [this]
    exact ⟨hq, e⟩
theorem le_nlt (x y : Int32) : x ≤ y ↔ ¬ y < x := by rw [Int32.le_iff_toInt_le, Int32.lt_iff_toInt_lt]; omega
theorem p_set {S : CS} {A : MS} {c : Int32} (C : Cpl S A) : tSet A c (ck c) = cd [8, 10] (eSetC S c (ck c)) ∧ (eSetC S c (ck c) = none → Cpl (csetl S (ck c) (ck (kf S (ck c) 9))) (mset A (ck c) (ck (kf S (ck c) 9)) (kw S (ck c) 0) (kw S (ck c) 1)) ∧ (mset A (ck c) (ck (kf S (ck c) 9)) (kw S (ck c) 0) (kw S (ck c) 1)).2.1 8 (ck c) = cspent (S.1 (21, ck c, 0) 6) (che S (ck c) (ck (kf S (ck c) 9))) true) := by
  have he := isc_eq C.2.2.1 c
  unfold tSet eSetC
  rw [he]
  by_cases h1 : cAt S c = true
  · obtain ⟨-, h2⟩ := C.2.2.1.at h1
    have cc := C.2.2.1.2.2.1 _ h2
    have hcond : (A.2.1 8 (ck c) ≠ 1 ∨ A.2.1 22 (ck c) ≠ 0 ∨ A.1 6 < A.2.1 20 (ck c) + 10) ↔ ¬ ((S.1 (21, ck c, 0) 6 = 1 ∧ bZ (S.1 (21, ck c, 0) 11) = false) ∧ S.1 (21, ck c, 0) 10 + 10 ≤ S.1 (0, 0, 0) 0) := by
      rw [cc.2.2.1.1, cc.2.2.1.2.2.2.2, cc.2.2.1.2.2.2.1, C.1.1, le_nlt, Classical.not_and_iff_not_or_not, Classical.not_and_iff_not_or_not, Classical.not_not, or_assoc]
      have : kf S (ck c) 11 ≠ 0 ↔ ¬ bZ (S.1 (21, ck c, 0) 11) = false := by
        unfold bZ
        simp
      rw [this]
    rw [if_pos h1, if_pos h1]
    by_cases h4 : (S.1 (21, ck c, 0) 6 = 1 ∧ bZ (S.1 (21, ck c, 0) 11) = false) ∧ S.1 (21, ck c, 0) 10 + 10 ≤ S.1 (0, 0, 0) 0
    · rw [if_neg (fun z => hcond.mp z h4), if_pos h4]
      refine ⟨rfl, fun _ => ?_⟩
      obtain ⟨p1, p2⟩ := cc.pubd (cc.2.2.2.1.2.2.1 h4.1.1)
      exact C.setl h2 h4.1.1 p1 p2 (by have := h4.1.2; unfold bZ at this; simpa using this)
    · rw [if_pos (hcond.mpr h4), if_neg h4]
      exact ⟨rfl, fun z => by cases z⟩
  · rw [if_neg h1, if_neg h1]
    exact ⟨rfl, fun z => by cases z⟩
theorem mgo_coins (A : MS) (j k o : Nat) : (mgo A j k o).2.1 1 = upd (A.2.1 1) o (A.2.1 1 o + A.2.1 15 (64 * j + k)) := by
  rw [mgo_eq]
  split <;> rfl
theorem mgo_ak (A : MS) (j k o : Nat) : ak (fun _ => False) (fun k => k = 1 ∨ 8 ≤ k ∧ k ≤ 22) A (mgo A j k o) := by
  rw [mgo_eq]
  have a : ak (fun _ => False) (fun k => k = 1 ∨ 8 ≤ k ∧ k ≤ 22) A (mgo3 A j k o) := (((ak.refl _ _ A).J (by decide)).I (Or.inl rfl)).I (by decide)
  split
  · exact (a.I (by decide)).I (by decide)
  · exact a
theorem Cpl.payp {S : CS} {A : MS} {j k q v : Nat} (C : Cpl S A) (hj : j < kC S) (h1 : kf S j 6 = 1) (hq : q ≤ kw S j 5) (h9 : kf S j 9 = nI q) (hk : k < kn S j) (hp : plf S j q k = true) (hv : v < 6) : Cpl (cpayp S j k v) (mgo A j k v) := by
  have cc := C.2.2.1.2.2.1 _ hj
  obtain ⟨c, hh, h0⟩ := cc.payp (v := v) (o := v) h1 hq h9 hk hp
  obtain ⟨-, d1, -, -, d4, -⟩ := cc.2.2.2.2.2.1 _ hk
  have d4' : 1 ≤ (kp S j k 2).toInt := d4
  rw [hh] at h0
  have h0' : 0 ≤ (kf S j 7).toInt - (kp S j k 2).toInt := h0
  have m := (C.2.2.2.1.mm C.2.2.1).one (v := kp S j k 2) hv hj (by omega) (by show _ ≤ (kf S j 7).toInt; omega)
  refine C.coinC (he := fun i => if i = j then (kf S j 7).toInt - (kp S j k 2).toInt else (kf S i 7).toInt) hj (fun r h1 h2 => ?_) (fun q i hi => ?_) (fun r => ⟨?_, ?_⟩) rfl (mgo_ak A j k v) c ?_ ?_ ?_ ?_ (fun j' h => mgo_chM A h)
  · rw [cfI_f, if_neg (h2 k), cfI_f, if_neg (fun z => h1 (by rw [z]))]
  · rw [cfI_i, if_neg (fun z => hi z.2), cfI_f, if_neg (by simp)]
  · rw [cfI_g, cfI_g]
  · rw [cfI_w, cfI_w]
  · rw [cfI_f, if_neg (by simp), cfI_f, if_pos rfl, mgo_coins, d1, C.1.2.1]
  · rw [cfI_f, if_neg (by simp), cfI_f, if_pos rfl]
    exact m.1
  · rw [if_pos rfl]
    exact hh
  · intro i hi
    rw [if_neg hi]
