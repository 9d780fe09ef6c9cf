/- Part 86: settle, what the ledger pays, a new channel, on both sides. -/
theorem CC.scal2 {S S' : CS} {A A' : MS} {j : Nat} (c : CC S A j)
    (e2 : S'.1 (22, j, 0) = S.1 (22, j, 0)) (e3 : S'.1 (23, j, 0) = S.1 (23, j, 0)) (g1 : ∀ k i, i ≠ 7 → S'.1 (26, j, k) i = S.1 (26, j, k) i) (g2 : ∀ k, S'.2.1 (26, j, k) = S.2.1 (26, j, k)) (g3 : ∀ k, S'.2.2.1 (26, j, k) = S.2.2.1 (26, j, k)) (hw : S'.2.2.1 (21, j, 0) = S.2.2.1 (21, j, 0)) (hn : S'.2.2.2 (24, j, 0) 0 = S.2.2.2 (24, j, 0) 0)
    (hA : ∀ k i, chIx k j i → (k = 6 ∨ k = 7 ∨ k = 9 ∨ k = 10 ∨ k = 11 ∨ k = 13 ∨ k = 14 ∨ k = 15 ∨ k = 16 ∨ k = 17) → A'.2.1 k i = A.2.1 k i ∧ A'.2.2 k i = A.2.2 k i)
    (h3 : A'.2.1 8 j = kf S' j 6 ∧ A'.2.1 12 j = kf S' j 7 ∧ A'.2.1 18 j = kf S' j 9 ∧ A'.2.1 20 j = kf S' j 10 ∧ A'.2.1 22 j = kf S' j 11)
    (h4 : (kf S' j 9 = -1 ∨ (∃ q, q ≤ kw S j 5 ∧ kf S' j 9 = nI q) ∧ A'.2.1 19 j = kf S' j 8 ∧ (kf S' j 8 = nI (kw S j 0) ∨ kf S' j 8 = nI (kw S j 1))) ∧ (kf S' j 6 = 0 → kf S' j 9 = -1 ∧ kf S' j 11 = 0) ∧ (kf S' j 6 = 1 → kf S' j 9 ≠ -1) ∧ (kf S' j 6 = 0 ∨ kf S' j 6 = 1 ∨ kf S' j 6 = 2) ∧ (kf S' j 11 = 0 ∨ kf S' j 11 = 1))
    (h8 : (kf S' j 9 = -1 → ∀ k, k < kn S j → bZ (kp S' j k 7) = false) ∧ ∀ q, q ≤ kw S j 5 → kf S' j 9 = nI q → ∀ k, k < 64 → gb (A'.2.2 21 j) k = (decide (k < kn S j) && plf S' j q k))
    (h9 : (kf S' j 6 = 0 → kf S j 6 = 0 ∧ kf S' j 7 = kf S j 7) ∧ (kf S' j 6 = 1 → ∀ q, q ≤ kw S j 5 → kf S' j 9 = nI q → (kf S' j 7).toInt = (if kf S' j 11 = 0 then (S.1 (22, j, 0) q).toInt + (S.1 (23, j, 0) q).toInt else 0) + lsum S' j q) ∧ (kf S' j 6 = 2 → kf S' j 7 = 0)) : CC S' A' j := by
  have hL := c.2.1.2.1
  have hN := c.2.1.2.2.2
  obtain ⟨c1, c2, c3, c4, c5, c6, c7, c8, c9⟩ := c
  have s : ∀ k, (k = 6 ∨ k = 7 ∨ k = 9 ∨ k = 13) → A'.2.1 k j = A.2.1 k j := fun k hk => (hA k j (by unfold chIx; rw [if_neg (by omega), if_neg (by omega)]) (by omega)).1
  have t : ∀ k i, (k = 11 ∨ k = 14 ∨ k = 15 ∨ k = 16 ∨ k = 17) → i < 64 → A'.2.1 k (64 * j + i) = A.2.1 k (64 * j + i) ∧ A'.2.2 k (64 * j + i) = A.2.2 k (64 * j + i) := fun k i hk hi => hA k (64 * j + i) (by unfold chIx; rw [if_neg (by omega), if_pos hk]; omega) (by omega)
  have u : ∀ l s, l < 64 → s < 2 → A'.2.1 10 (2 * (64 * j + l) + s) = A.2.1 10 (2 * (64 * j + l) + s) := fun l s hl hs => (hA 10 _ (by unfold chIx; rw [if_pos rfl]; omega) (by omega)).1
  have ep : ∀ l, pin S' j l = pin S j l := fun l => by
    funext k
    unfold pin kp
    rw [g1 k 5 (by decide), g1 k 6 (by decide)]
  have ea : pam S' j = pam S j := by
    funext k
    unfold pam kp
    rw [g1 k 2 (by decide)]
  have es : ∀ l, psum S' j l = psum S j l := fun l => by
    unfold psum kn
    rw [ep, ea, hn]
  refine ⟨?_, ?_, h3, ?_, ?_, ?_, ?_, ?_, ?_⟩
  · unfold C1 kw
    rw [s 6 (by decide), s 7 (by decide), hw]
    exact c1
  · unfold C2 kw kn
    rw [s 9 (by decide), s 13 (by decide), hw, hn]
    exact c2
  · unfold C4 kw
    rw [hw]
    exact h4
  · intro l hl
    unfold kw at hl
    rw [hw] at hl
    have hl : l ≤ kw S j 5 := hl
    rw [u l 0 (by omega) (by omega), u l 1 (by omega) (by omega), e2, e3]
    exact c5 l hl
  · intro k hk
    unfold kn at hk
    rw [hn] at hk
    have hk' : k < kn S j := hk
    rw [(t 14 k (by decide) (by omega)).1, (t 15 k (by decide) (by omega)).1, (t 16 k (by decide) (by omega)).2, (t 17 k (by decide) (by omega)).1, ea]
    unfold kq kw kp
    rw [hw, g1 k 2 (by decide), g1 k 4 (by decide), g1 k 5 (by decide), g1 k 6 (by decide), g2, g3]
    exact c6 k hk
  · intro l hl k hk
    unfold kw at hl
    rw [hw] at hl
    have hl : l ≤ kw S j 5 := hl
    rw [(t 11 l (by decide) (by omega)).2, ep]
    unfold kn
    rw [hn]
    exact c7 l hl k hk
  · unfold C8 kw kn kp
    simp only [hw, hn]
    exact h8
  · obtain ⟨T, hT, hb, h1, -⟩ := c9
    unfold C9 kw
    rw [hw, e2, e3]
    refine ⟨T, hT, fun l hl => ?_, fun z => ?_, fun z q hq => ?_, h9.2.2⟩
    · rw [es]
      exact hb l hl
    · obtain ⟨z1, z2⟩ := h9.1 z
      rw [z2]
      exact h1 z1
    · exact h9.2.1 z q hq
theorem i_subsub (a b c : Int32) : a - b - c = a - (b + c) := by
  rw [← Int32.toBitVec_inj]
  simp only [Int32.toBitVec_sub, Int32.toBitVec_add]
  rw [BitVec.sub_eq_add_neg, BitVec.sub_eq_add_neg, BitVec.sub_eq_add_neg, BitVec.neg_add, BitVec.sub_eq_add_neg, BitVec.add_assoc]
theorem CC.setl {S : CS} {A : MS} {j q f s : Nat} (c : CC S A j) (h1 : kf S j 6 = 1) (hq : q ≤ kw S j 5) (h9 : kf S j 9 = nI q) (h11 : kf S j 11 = 0) : CC (csetl S j q) (mset A j q f s) j ∧ (che S j q).toInt = (kf S j 7).toInt - ((S.1 (22, j, 0) q).toInt + (S.1 (23, j, 0) q).toInt) ∧ 0 ≤ (che S j q).toInt := by
  obtain ⟨v1, v2, v3, v4⟩ := cs_view (j := j) (f := upd (upd (upd (S.1 (21, j, 0)) 7 (che S j q)) 11 1) 6 (cspent (S.1 (21, j, 0) 6) (che S j q) true)) (cbal_same S j q) rfl
  have c' := c
  obtain ⟨c1, c2, c3, c4, c5, c6, c7, c8, c9⟩ := c'
  obtain ⟨l1, l2, l3⟩ := c9.lft c6 hq
  have g := gb_lft c2 (c8.2 q hq h9)
  obtain ⟨b1, b2, b3, b4, -⟩ := C9.top (k := 0) c6 c9 hq
  obtain ⟨T, hT, hb, -, hh, -⟩ := c9
  have hh := hh h1 q hq h9
  rw [if_pos h11] at hh
  have hL := c2.2.1
  have hz : (che S j q).toInt = lsum S j q := by
    unfold che
    unfold kf at *
    rw [i_sub, i_add (by omega) (by omega)]
    · omega
    · rw [i_add (by omega) (by omega)]
      omega
    · rw [i_add (by omega) (by omega)]
      omega
  have hz0 : che S j q = 0 ↔ A.2.2 21 j = 0 := by
    rw [g, ← l3, ← hz]
    exact ⟨fun z => by rw [z]; rfl, fun z => i_inj z⟩
  have h6 : cspent (S.1 (21, j, 0) 6) (che S j q) true = if A.2.2 21 j = 0 then 2 else 1 := by
    unfold cspent
    have : S.1 (21, j, 0) 6 = 1 := h1
    rw [this]
    by_cases e : A.2.2 21 j = 0
    · rw [if_pos ⟨rfl, hz0.mpr e⟩, if_pos e]
    · rw [if_neg (fun z => e (hz0.mp z.2)), if_neg e]
  have hA2 : (mset1 (mset1 (mI (mF A 0 0) 22 j 1) j q 0 f) j q 1 s).2.1 12 j = che S j q := by
    unfold mset1
    simp only [mI_i, mF_i]
    simp
    obtain ⟨z1, z2⟩ := c5 q hq
    rw [Nat.add_zero] at z1
    rw [z1, z2, c3.2.1, i_subsub]
    rfl
  have hAj : (mset1 (mset1 (mI (mF A 0 0) 22 j 1) j q 0 f) j q 1 s).2.2 = A.2.2 := rfl
  have hAi : ∀ k i, k ≠ 1 → k ≠ 12 → (mset1 (mset1 (mI (mF A 0 0) 22 j 1) j q 0 f) j q 1 s).2.1 k i = if k = 22 ∧ i = j then 1 else A.2.1 k i := fun k i e1 e2 => by
    unfold mset1
    simp only [mI_i, mF_i]
    simp [e1, e2]
  have hB : mset A j q f s = if A.2.2 21 j = 0 then mI (mI (mset1 (mset1 (mI (mF A 0 0) 22 j 1) j q 0 f) j q 1 s) 8 j 2) 12 j 0 else mset1 (mset1 (mI (mF A 0 0) 22 j 1) j q 0 f) j q 1 s := rfl
  generalize mset1 (mset1 (mI (mF A 0 0) 22 j 1) j q 0 f) j q 1 s = A2 at hA2 hAj hAi hB
  have hi : ∀ k i, k ≠ 1 → k ≠ 12 → k ≠ 8 → k ≠ 22 → (mset A j q f s).2.1 k i = A.2.1 k i := fun k i e1 e2 e3 e4 => by
    rw [hB]
    by_cases e : A.2.2 21 j = 0
    · rw [if_pos e, mI_i, mI_i, if_neg (fun z => e2 z.1), if_neg (fun z => e3 z.1), hAi k i e1 e2, if_neg (fun z => e4 z.1)]
    · rw [if_neg e, hAi k i e1 e2, if_neg (fun z => e4 z.1)]
  have hj : (mset A j q f s).2.2 = A.2.2 := by
    rw [hB]
    by_cases e : A.2.2 21 j = 0
    · rw [if_pos e]
      exact hAj
    · rw [if_neg e]
      exact hAj
  have h22 : (mset A j q f s).2.1 22 j = 1 := by
    rw [hB]
    by_cases e : A.2.2 21 j = 0
    · rw [if_pos e, mI_i, mI_i, if_neg (by simp), if_neg (by simp), hAi _ _ (by decide) (by decide), if_pos ⟨rfl, rfl⟩]
    · rw [if_neg e, hAi _ _ (by decide) (by decide), if_pos ⟨rfl, rfl⟩]
  have h8 : (mset A j q f s).2.1 8 j = if A.2.2 21 j = 0 then 2 else 1 := by
    rw [hB]
    by_cases e : A.2.2 21 j = 0
    · rw [if_pos e, if_pos e, mI_i, mI_i, if_neg (by simp), if_pos ⟨rfl, rfl⟩]
    · rw [if_neg e, if_neg e, hAi _ _ (by decide) (by decide), if_neg (by simp), c3.1]
      exact h1
  have h12 : (mset A j q f s).2.1 12 j = che S j q := by
    rw [hB]
    by_cases e : A.2.2 21 j = 0
    · rw [if_pos e, mI_i, if_pos ⟨rfl, rfl⟩, hz0.mpr e]
    · rw [if_neg e, hA2]
  refine ⟨c.scal v1 v2 v3 (fun k i _ hk => ?_) ?_ ?_ ?_ ?_, by omega, by omega⟩
  · rw [hi k i (by omega) (by omega) (by omega) (by omega), hj]
    exact ⟨rfl, rfl⟩
  · unfold csetl
    simp only [v4]
    rw [h8, h12, h22, h6, hi 18 j (by decide) (by decide) (by decide) (by decide), hi 20 j (by decide) (by decide) (by decide) (by decide)]
    exact ⟨rfl, rfl, c3.2.2.1, c3.2.2.2.1, rfl⟩
  · unfold csetl
    simp only [v4]
    rw [h6, hi 19 j (by decide) (by decide) (by decide) (by decide)]
    refine ⟨c4.1, ?_, fun _ => c4.2.2.1 h1, ?_, Or.inr rfl⟩
    · intro z
      have z' : (if A.2.2 21 j = 0 then (2 : Int32) else 1) = 0 := z
      split at z' <;> exact absurd z' (by decide)
    · show (if A.2.2 21 j = 0 then (2 : Int32) else 1) = 0 ∨ (if A.2.2 21 j = 0 then (2 : Int32) else 1) = 1 ∨ (if A.2.2 21 j = 0 then (2 : Int32) else 1) = 2
      split
      · exact Or.inr (Or.inr rfl)
      · exact Or.inr (Or.inl rfl)
  · unfold csetl
    simp only [v4]
    rw [hj]
    exact c8
  · unfold csetl
    simp only [v4]
    rw [h6]
    refine ⟨fun z => ?_, fun z q' hq' z' => ?_, fun z => ?_⟩
    · have z' : (if A.2.2 21 j = 0 then (2 : Int32) else 1) = 0 := z
      split at z' <;> exact absurd z' (by decide)
    · have z2 : kf S j 9 = nI q' := z'
      rw [h9, xn_inj (by omega) (by omega)] at z2
      subst z2
      show (che S j q).toInt = (if (1 : Int32) = 0 then _ else 0) + _
      rw [if_neg (by decide), hz]
      omega
    · have z' : (if A.2.2 21 j = 0 then (2 : Int32) else 1) = 2 := z
      by_cases e : A.2.2 21 j = 0
      · exact hz0.mpr e
      · rw [if_neg e] at z'
        exact absurd z' (by decide)
def mgo3 (A : MS) (j k o : Nat) : MS := mI (mI (mJ A 21 j (A.2.2 21 j &&& (bk (nI k) ^^^ (-1)))) 1 o (A.2.1 1 o + A.2.1 15 (64 * j + k))) 12 j (A.2.1 12 j - A.2.1 15 (64 * j + k))
theorem mgo_eq (A : MS) (j k o : Nat) : mgo A j k o = if A.2.1 22 j ≠ 0 ∧ (A.2.2 21 j &&& (bk (nI k) ^^^ (-1))) = 0 then mI (mI (mgo3 A j k o) 8 j 2) 12 j 0 else mgo3 A j k o := by
  have e3 : (mI (mI (mJ A 21 j (A.2.2 21 j &&& (bk (nI k) ^^^ (-1)))) 1 o ((mJ A 21 j (A.2.2 21 j &&& (bk (nI k) ^^^ (-1)))).2.1 1 o + (mJ A 21 j (A.2.2 21 j &&& (bk (nI k) ^^^ (-1)))).2.1 15 (64 * j + k))) 12 j ((mI (mJ A 21 j (A.2.2 21 j &&& (bk (nI k) ^^^ (-1)))) 1 o ((mJ A 21 j (A.2.2 21 j &&& (bk (nI k) ^^^ (-1)))).2.1 1 o + (mJ A 21 j (A.2.2 21 j &&& (bk (nI k) ^^^ (-1)))).2.1 15 (64 * j + k))).2.1 12 j - (mI (mJ A 21 j (A.2.2 21 j &&& (bk (nI k) ^^^ (-1)))) 1 o ((mJ A 21 j (A.2.2 21 j &&& (bk (nI k) ^^^ (-1)))).2.1 1 o + (mJ A 21 j (A.2.2 21 j &&& (bk (nI k) ^^^ (-1)))).2.1 15 (64 * j + k))).2.1 15 (64 * j + k))) = mgo3 A j k o := by
    unfold mgo3
    rw [mI_i, if_neg (by simp), mI_i, if_neg (by simp), mJ_i]
  unfold mgo
  simp only [e3]
  have e1 : (mgo3 A j k o).2.1 22 j = A.2.1 22 j := by
    unfold mgo3
    rw [mI_i, if_neg (by simp), mI_i, if_neg (by simp), mJ_i]
  have e2 : (mgo3 A j k o).2.2 21 j = (A.2.2 21 j &&& (bk (nI k) ^^^ (-1))) := by
    unfold mgo3
    rw [mI_j, mI_j, mJ_j, if_pos ⟨rfl, rfl⟩]
  simp only [e1, e2]
theorem CC.payp {S : CS} {A : MS} {j k q v o : Nat} (c : CC S A j) (h1 : kf S j 6 = 1) (hq : q ≤ kw S j 5) (h9 : kf S j 9 = nI q) (hk : k < kn S j) (hp : plf S j q k = true) : CC (cpayp S j k v) (mgo A j k o) j ∧ (kf S j 7 - kp S j k 2).toInt = (kf S j 7).toInt - pam S j k ∧ 0 ≤ (kf S j 7 - kp S j k 2).toInt := by
  have c' := c
  obtain ⟨c1, c2, c3, c4, c5, c6, c7, c8, c9⟩ := c'
  have hL := c2.2.1
  have hN := c2.2.2.2
  obtain ⟨l1, l2, l3⟩ := c9.lft c6 hq
  obtain ⟨b1, b2, b3, b4, -⟩ := C9.top (k := 0) c6 c9 hq
  have hkl : pam S j k ≤ lsum S j q := sm_le _ (fun i hi _ => by have := (c6 i hi).2.2.2.2.1; omega) hk hp
  have hk1 := (c6 k hk).2.2.2.2.1
  obtain ⟨T, hT, hb, -, hh, -⟩ := c9
  have hh := hh h1 q hq h9
  have ht : (kf S j 7 - kp S j k 2).toInt = (kf S j 7).toInt - pam S j k := by
    unfold pam at *
    have : (kf S j 7).toInt ≤ 24000000 ∧ 0 ≤ (kf S j 7).toInt := by
      split at hh <;> omega
    rw [i_sub (by omega) (by omega)]
  have ht0 : 0 ≤ (kf S j 7 - kp S j k 2).toInt := by
    rw [ht]
    split at hh <;> omega
  have vp : ∀ k' i, (cpayp S j k v).1 (26, j, k') i = if k' = k ∧ i = 7 then 1 else S.1 (26, j, k') i := fun k' i => by
    unfold cpayp
    rw [cset_f, if_neg (by simp), cfI_i, cfI_i]
    simp
  have vf : ∀ i, kf (cpayp S j k v) j i = upd (upd (S.1 (21, j, 0)) 7 (S.1 (21, j, 0) 7 - S.1 (26, j, k) 2)) 6 (cspent (S.1 (21, j, 0) 6) (S.1 (21, j, 0) 7 - S.1 (26, j, k) 2) (bZ (S.1 (21, j, 0) 11))) i := fun i => by
    unfold cpayp kf
    rw [cset_f, if_pos rfl]
  have vl : ∀ k', plf (cpayp S j k v) j q k' = (plf S j q k' && !decide (k' = k)) := fun k' => by
    unfold plf pin kp
    rw [vp, vp, vp, if_neg (by simp), if_neg (by simp)]
    by_cases e : k' = k
    · rw [if_pos ⟨e, rfl⟩, decide_eq_true e]
      have : bZ 1 = true := by decide
      rw [this]
      simp
    · rw [if_neg (fun z => e z.1), decide_eq_false e]
      simp
  have vs : lsum (cpayp S j k v) j q = lsum S j q - pam S j k := by
    have e : lsum (cpayp S j k v) j q = sm (fun i => plf S j q i && !decide (i = k)) (pam S j) (kn S j) := by
      unfold lsum
      show sm _ _ (kn S j) = _
      refine sm_ext _ (fun i _ => vl i) (fun i _ _ => ?_)
      unfold pam kp
      rw [vp, if_neg (by simp)]
    rw [e]
    exact sm_del _ hk hp
  have gl : ∀ k', k' < 64 → gb (A.2.2 21 j &&& (bk (nI k) ^^^ (-1))) k' = (decide (k' < kn S j) && plf (cpayp S j k v) j q k') := fun k' hk' => by
    rw [gb_del _ (by omega) _ hk', c8.2 q hq h9 k' hk', vl, Bool.and_assoc]
  have z0 : (A.2.2 21 j &&& (bk (nI k) ^^^ (-1))) = 0 ↔ lsum (cpayp S j k v) j q = 0 := by
    rw [gb_zero]
    have e : lsum (cpayp S j k v) j q = 0 ↔ ∀ k', k' < kn S j → plf (cpayp S j k v) j q k' = false := sm_pos _ (fun i hi _ => by
      unfold pam kp
      rw [vp, if_neg (by simp)]
      exact (c6 i hi).2.2.2.2.1)
    rw [e]
    constructor
    · intro z k' hk'
      have := gl k' (by omega)
      rw [z k' (by omega), decide_eq_true hk', Bool.true_and] at this
      exact this.symm
    · intro z k' hk'
      rw [gl k' hk']
      by_cases e : k' < kn S j
      · rw [z k' e, Bool.and_false]
      · rw [decide_eq_false e, Bool.false_and]
  have hz0 : kf S j 11 ≠ 0 → (kf S j 7 - kp S j k 2 = 0 ↔ (A.2.2 21 j &&& (bk (nI k) ^^^ (-1))) = 0) := fun e => by
    rw [if_neg e] at hh
    rw [z0, vs]
    constructor
    · intro z
      rw [z] at ht
      have : (0 : Int32).toInt = 0 := rfl
      omega
    · intro z
      apply i_inj
      rw [ht]
      show _ = 0
      omega
  have h6 : cspent (S.1 (21, j, 0) 6) (S.1 (21, j, 0) 7 - S.1 (26, j, k) 2) (bZ (S.1 (21, j, 0) 11)) = if kf S j 11 ≠ 0 ∧ (A.2.2 21 j &&& (bk (nI k) ^^^ (-1))) = 0 then 2 else 1 := by
    unfold cspent
    have e6 : S.1 (21, j, 0) 6 = 1 := h1
    rw [e6]
    by_cases e : kf S j 11 ≠ 0 ∧ (A.2.2 21 j &&& (bk (nI k) ^^^ (-1))) = 0
    · rw [if_pos e, if_pos ⟨decide_eq_true e.1, (hz0 e.1).mpr e.2⟩]
    · rw [if_neg e, if_neg (fun z => e ⟨of_decide_eq_true z.1, (hz0 (of_decide_eq_true z.1)).mp z.2⟩)]
  have hg := mgo_eq A j k o
  have c322 := c3.2.2.2.2
  have hA : ∀ x i, x ≠ 1 → x ≠ 8 → x ≠ 12 → (mgo A j k o).2.1 x i = A.2.1 x i := fun x i e1 e2 e3 => by
    rw [hg]
    split
    · unfold mgo3
      simp only [mI_i, mJ_i]
      simp [e1, e2, e3]
    · unfold mgo3
      simp only [mI_i, mJ_i]
      simp [e1, e3]
  have hJ : ∀ x i, (mgo A j k o).2.2 x i = if x = 21 ∧ i = j then (A.2.2 21 j &&& (bk (nI k) ^^^ (-1))) else A.2.2 x i := fun x i => by
    rw [hg]
    split
    · unfold mgo3
      simp only [mI_j, mJ_j]
    · unfold mgo3
      simp only [mI_j, mJ_j]
  rw [c322] at hg
  have h8 : (mgo A j k o).2.1 8 j = if kf S j 11 ≠ 0 ∧ (A.2.2 21 j &&& (bk (nI k) ^^^ (-1))) = 0 then 2 else 1 := by
    rw [hg]
    split
    · rw [mI_i, if_neg (by simp), mI_i, if_pos ⟨rfl, rfl⟩]
    · unfold mgo3
      rw [mI_i, if_neg (by simp), mI_i, if_neg (by simp), mJ_i, c3.1]
      exact h1
  have h12 : (mgo A j k o).2.1 12 j = kf S j 7 - kp S j k 2 := by
    rw [hg]
    split
    · next e => rw [mI_i, if_pos ⟨rfl, rfl⟩, (hz0 e.1).mpr e.2]
    · unfold mgo3
      rw [mI_i, if_pos ⟨rfl, rfl⟩, c3.2.1, (c6 k hk).2.1]
  refine ⟨c.scal2 ?_ ?_ (fun k' i hi => ?_) (fun k' => ?_) (fun k' => ?_) ?_ ?_ (fun x i _ hx => ?_) ?_ ?_ ?_ ?_, ht, ht0⟩
  · unfold cpayp
    rw [cset_f, if_neg (by simp), cfI_f, if_neg (by simp), cfI_f, if_neg (by simp)]
  · unfold cpayp
    rw [cset_f, if_neg (by simp), cfI_f, if_neg (by simp), cfI_f, if_neg (by simp)]
  · rw [vp, if_neg (fun z => hi z.2)]
  · unfold cpayp
    rw [cset_g, if_neg (by simp), cfI_g, cfI_g]
  · unfold cpayp
    rw [cset_w, if_neg (by simp), cfI_w, cfI_w]
  · unfold cpayp
    rw [cset_w, if_pos rfl]
  · rfl
  · rw [hA x i (by omega) (by omega) (by omega), hJ, if_neg (by omega)]
    exact ⟨rfl, rfl⟩
  · simp only [vf]
    rw [h8, h12, h6, hA 18 j (by decide) (by decide) (by decide), hA 20 j (by decide) (by decide) (by decide), hA 22 j (by decide) (by decide) (by decide)]
    exact ⟨rfl, rfl, c3.2.2.1, c3.2.2.2.1, c3.2.2.2.2⟩
  · simp only [vf]
    rw [h6, hA 19 j (by decide) (by decide) (by decide)]
    refine ⟨c4.1, ?_, fun _ => c4.2.2.1 h1, ?_, c4.2.2.2.2⟩
    · intro z
      have z' : (if kf S j 11 ≠ 0 ∧ (A.2.2 21 j &&& (bk (nI k) ^^^ (-1))) = 0 then (2 : Int32) else 1) = 0 := z
      split at z' <;> exact absurd z' (by decide)
    · show (if kf S j 11 ≠ 0 ∧ (A.2.2 21 j &&& (bk (nI k) ^^^ (-1))) = 0 then (2 : Int32) else 1) = 0 ∨ (if kf S j 11 ≠ 0 ∧ (A.2.2 21 j &&& (bk (nI k) ^^^ (-1))) = 0 then (2 : Int32) else 1) = 1 ∨ (if kf S j 11 ≠ 0 ∧ (A.2.2 21 j &&& (bk (nI k) ^^^ (-1))) = 0 then (2 : Int32) else 1) = 2
      split
      · exact Or.inr (Or.inr rfl)
      · exact Or.inr (Or.inl rfl)
  · simp only [vf]
    refine ⟨fun z => absurd z (c4.2.2.1 h1), fun q' hq' z' k' hk' => ?_⟩
    have z2 : kf S j 9 = nI q' := z'
    rw [h9, xn_inj (by omega) (by omega)] at z2
    subst z2
    rw [hJ, if_pos ⟨rfl, rfl⟩]
    exact gl k' hk'
  · simp only [vf]
    rw [h6]
    refine ⟨fun z => ?_, fun z q' hq' z' => ?_, fun z => ?_⟩
    · have z' : (if kf S j 11 ≠ 0 ∧ (A.2.2 21 j &&& (bk (nI k) ^^^ (-1))) = 0 then (2 : Int32) else 1) = 0 := z
      split at z' <;> exact absurd z' (by decide)
    · have z2 : kf S j 9 = nI q' := z'
      rw [h9, xn_inj (by omega) (by omega)] at z2
      subst z2
      rw [vs]
      show (kf S j 7 - kp S j k 2).toInt = (if kf S j 11 = 0 then _ else 0) + _
      rw [ht, hh]
      omega
    · have z' : (if kf S j 11 ≠ 0 ∧ (A.2.2 21 j &&& (bk (nI k) ^^^ (-1))) = 0 then (2 : Int32) else 1) = 2 := z
      by_cases e : kf S j 11 ≠ 0 ∧ (A.2.2 21 j &&& (bk (nI k) ^^^ (-1))) = 0
      · exact (hz0 e.1).mpr e.2
      · rw [if_neg e] at z'
        exact absurd z' (by decide)
