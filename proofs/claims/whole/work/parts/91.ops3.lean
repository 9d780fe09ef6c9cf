/- Part 91: class and model side by side: keep, publish. -/
theorem mI_mI (A : MS) (k i : Nat) (x y : Int32) : mI (mI A k i x) k i y = mI A k i y := by
  unfold mI
  refine Prod.ext rfl (Prod.ext (funext (fun a => ?_)) rfl)
  by_cases h : a = k
  · subst h
    simp only [if_true]
    funext b
    unfold upd
    by_cases e : b = i
    · rw [if_pos e, if_pos e]
    · rw [if_neg e, if_neg e, if_neg e]
  · simp only [if_neg h]
/-- to learn twice is to learn once -/
theorem mlearn2 (A : MS) (K : Nat) (k : Int64) (w1 w2 : Int32) : mlearn (mlearn A K k w1) (mK A K k) k w2 = mlearn A K k (w1 ||| w2) := by
  cases hf : mfind (A.2.2 23) k K with
  | some j =>
    have e1 : mK A K k = K := by unfold mK; rw [hf]
    have e2 : ∀ w, mlearn A K k w = mI A 24 j (A.2.1 24 j ||| w) := fun w => by unfold mlearn; rw [hf]
    rw [e1, e2, e2]
    unfold mlearn
    rw [show (mI A 24 j (A.2.1 24 j ||| w1)).2.2 23 = A.2.2 23 from rfl, hf]
    simp only
    rw [mI_mI, mI_i, if_pos ⟨rfl, rfl⟩, Int32.or_assoc]
  | none =>
    have e1 : mK A K k = K + 1 := by unfold mK; rw [hf]
    have e2 : ∀ w, mlearn A K k w = mI (mF (mI (mJ A 23 K k) 24 K 0) 25 (nI K + 1)) 24 K (0 ||| w) := fun w => by unfold mlearn; rw [hf]
    rw [e1, e2, e2]
    have e3 : mfind ((mI (mF (mI (mJ A 23 K k) 24 K 0) 25 (nI K + 1)) 24 K (0 ||| w1)).2.2 23) k (K + 1) = some K := by
      show (if vp_updL (A.2.2 23) K k K = k then some K else mfind (vp_updL (A.2.2 23) K k) k K) = some K
      rw [if_pos (by simp [vp_updL])]
    unfold mlearn
    rw [e3]
    simp only
    rw [mI_mI, mI_i, if_pos ⟨rfl, rfl⟩, Int32.or_assoc]
theorem p_keep {S : CS} {A : MS} {c k : Int32} {s : Int64} (C : Cpl S A) : tKeep A c k s (ck c) (kw S (ck c) 5) (ck k) (S.2.2.1 (6, 0, 0) 0) = cd [8, 9, 10] (eKeep S c k s (ck c) (ck k)) ∧ (eKeep S c k s (ck c) (ck k) = none → Cpl (ckeep S (ck c) (ck k) s) (mkeep2 A (ck c) (kw S (ck c) 5) (ck k) (S.2.2.1 (6, 0, 0) 0) s)) := by
  have he := isc_eq C.2.2.1 c
  unfold tKeep eKeep
  rw [he]
  by_cases h1 : cAt S c = true
  · obtain ⟨-, h2⟩ := C.2.2.1.at h1
    have cc := C.2.2.1.2.2.1 _ h2
    have hL := cc.2.1.2.1
    have hN := cc.2.1.2.2.2
    rw [cc.lat k]
    by_cases h3 : cAt S c = true ∧ lAt S k (ck c) (ck k) = true
    · rw [if_pos h3, if_pos h3]
      obtain ⟨e1, e2, e3⟩ := lAt_of (by omega) h3.2
      obtain ⟨-, d1, d2, d3, -⟩ := cc.2.2.2.2.2.1 _ e2
      rw [d2, d3, C.2.1.has]
      by_cases h5 : S.2.1 (26, ck c, ck k) 0 = lk s
      · rw [if_neg (fun z => z h5), if_pos h5]
        have hcond : (A.2.1 8 (ck c) ≠ 0 ∨ kp S (ck c) (ck k) 4 ≤ A.1 6 ∨ ¬ A.2.1 9 (ck c) + 1 < 64 ∨ chas S (lk s) = false) ↔ ¬ ((S.1 (21, ck c, 0) 6 = 0 ∧ S.1 (0, 0, 0) 0 < S.1 (26, ck c, ck k) 4) ∧ nI (S.2.2.1 (21, ck c, 0) 5) < 63 ∧ chas S (lk s) = true) := by
          rw [cc.room, cc.2.2.1.1, C.1.1]
          have : ∀ x y : Int32, x ≤ y ↔ ¬ y < x := fun x y => by rw [Int32.le_iff_toInt_le, Int32.lt_iff_toInt_lt]; omega
          rw [this]
          cases chas S (lk s) <;> simp only [Bool.false_eq_true, Bool.true_eq_false, and_false, not_false_eq_true, and_true, or_false, or_true, Classical.not_and_iff_not_or_not, or_assoc]
        by_cases h4 : (S.1 (21, ck c, 0) 6 = 0 ∧ S.1 (0, 0, 0) 0 < S.1 (26, ck c, ck k) 4) ∧ nI (S.2.2.1 (21, ck c, 0) 5) < 63 ∧ chas S (lk s) = true
        · rw [if_neg (fun z => hcond.mp z h4), if_pos h4]
          refine ⟨rfl, fun _ => ?_⟩
          have hL63 : kw S (ck c) 5 < 63 := (xn_lt (by omega) (by decide)).mp h4.2.1
          obtain ⟨r, r1, r2, r3, r4, r5, r6, r7⟩ := cc.2.2.2.2.2.1.ends cc.1 e2
          have E := ((C.F0 0).endp h2 e2 e3 hL63 h4.1.1 (show 1 - r < 2 by omega) (show 1 - (mF A 0 0).2.1 14 (64 * ck c + ck k) = nI (1 - r) from r5) d1 r4).learn (k := lk s) (((1 : Int32) <<< (nI (S.2.2.1 (26, ck c, ck k) 0) &&& 31)) ||| ((1 : Int32) <<< (nI (S.2.2.1 (26, ck c, ck k) 1) &&& 31))) h4.2.2
          unfold mkeep2 mkeep
          simp only
          rw [show (mF A 0 0).2.2 16 (64 * ck c + ck k) = lk s from d2.trans h5, show mK A (S.2.2.1 (6, 0, 0) 0) (lk s) = mK (mkept (mF A 0 0) (ck c) (kw S (ck c) 5) (ck k)) (S.2.2.1 (6, 0, 0) 0) (lk s) from rfl, mlearn2, show mnode (mF A 0 0) (ck c) ((mF A 0 0).2.1 14 (64 * ck c + ck k)) = nI (kq S (ck c) (ck k) 0) from r6, r7]
          exact E
        · rw [if_pos (hcond.mpr h4), if_neg h4]
          exact ⟨rfl, fun z => by cases z⟩
      · rw [if_pos h5, if_neg h5]
        exact ⟨rfl, fun z => by cases z⟩
    · rw [if_neg h3, if_neg h3]
      exact ⟨rfl, fun z => by cases z⟩
  · rw [if_neg (fun z => h1 z.1), if_neg (fun z => h1 z.1)]
    exact ⟨rfl, fun z => by cases z⟩
