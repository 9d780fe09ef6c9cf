/- Part 88: what an operation leaves as it was; secrets; coins. -/
/-- only objects of the kinds P change -/
def sk (P : Nat → Prop) (S S' : CS) : Prop := ∀ r : RO, ¬ P r.1 → S'.1 r = S.1 r ∧ S'.2.1 r = S.2.1 r ∧ S'.2.2.1 r = S.2.2.1 r
/-- only the fields F and the arrays K change -/
def ak (F K : Nat → Prop) (A A' : MS) : Prop := (∀ j, ¬ F j → A'.1 j = A.1 j) ∧ ∀ k, ¬ K k → A'.2.1 k = A.2.1 k ∧ A'.2.2 k = A.2.2 k
theorem sk.refl (P : Nat → Prop) (S : CS) : sk P S S := fun _ _ => ⟨rfl, rfl, rfl⟩
theorem sk.put {P : Nat → Prop} {S S' : CS} (h : sk P S S') {r : RO} (hr : P r.1) (f : Nat → Int32) (g : Nat → Int64) (w : Nat → Nat) : sk P S (cset S' r f g w) := by
  intro q hq
  have n : q ≠ r := fun z => hq (by rw [z]; exact hr)
  rw [cset_f, cset_g, cset_w, if_neg n, if_neg n, if_neg n]
  exact h q hq
theorem sk.I {P : Nat → Prop} {S S' : CS} (h : sk P S S') {r : RO} (hr : P r.1) {i : Nat} {x : Int32} : sk P S (cfI S' r i x) := h.put hr _ _ _
theorem sk.J {P : Nat → Prop} {S S' : CS} (h : sk P S S') {r : RO} (hr : P r.1) {i : Nat} {x : Int64} : sk P S (cfJ S' r i x) := h.put hr _ _ _
theorem sk.N {P : Nat → Prop} {S S' : CS} (h : sk P S S') {r : RO} (hr : P r.1) {i : Nat} {x : Nat} : sk P S (cfN S' r i x) := h.put hr _ _ _
theorem sk.trans {P : Nat → Prop} {S S' S'' : CS} (h : sk P S S') (h' : sk P S' S'') : sk P S S'' := fun r hr => ⟨(h' r hr).1.trans (h r hr).1, (h' r hr).2.1.trans (h r hr).2.1, (h' r hr).2.2.trans (h r hr).2.2⟩
theorem sk.mono {P Q : Nat → Prop} {S S' : CS} (h : sk P S S') (hq : ∀ k, P k → Q k) : sk Q S S' := fun r hr => h r (fun z => hr (hq _ z))
theorem ak.refl (F K : Nat → Prop) (A : MS) : ak F K A A := ⟨fun _ _ => rfl, fun _ _ => ⟨rfl, rfl⟩⟩
theorem ak.I {F K : Nat → Prop} {A A' : MS} (h : ak F K A A') {k i : Nat} {x : Int32} (hk : K k) : ak F K A (mI A' k i x) := by
  refine ⟨h.1, fun q hq => ⟨?_, (h.2 q hq).2⟩⟩
  funext b
  rw [mI_i, if_neg (fun z => hq (by rw [z.1]; exact hk)), (h.2 q hq).1]
theorem ak.J {F K : Nat → Prop} {A A' : MS} (h : ak F K A A') {k i : Nat} {x : Int64} (hk : K k) : ak F K A (mJ A' k i x) := by
  refine ⟨h.1, fun q hq => ⟨(h.2 q hq).1, ?_⟩⟩
  funext b
  rw [mJ_j, if_neg (fun z => hq (by rw [z.1]; exact hk)), (h.2 q hq).2]
theorem ak.F {F K : Nat → Prop} {A A' : MS} (h : ak F K A A') {i : Nat} {x : Int32} (hk : F i) : ak F K A (mF A' i x) := by
  refine ⟨fun j hj => ?_, h.2⟩
  rw [mF_f, if_neg (fun z => hj (by rw [z]; exact hk))]
  exact h.1 j hj
theorem ak.trans {F K : Nat → Prop} {A A' A'' : MS} (h : ak F K A A') (h' : ak F K A' A'') : ak F K A A'' := ⟨fun j hj => (h'.1 j hj).trans (h.1 j hj), fun k hk => ⟨(h'.2 k hk).1.trans (h.2 k hk).1, (h'.2 k hk).2.trans (h.2 k hk).2⟩⟩
theorem ak.mono {F K F' K' : Nat → Prop} {A A' : MS} (h : ak F K A A') (hf : ∀ k, F k → F' k) (hk : ∀ k, K k → K' k) : ak F' K' A A' := ⟨fun j hj => h.1 j (fun z => hj (hf _ z)), fun k q => h.2 k (fun z => q (hk _ z))⟩
theorem XN.fr {S S' : CS} {A A' : MS} {P F K : Nat → Prop} (x : XN S A) (hs : sk P S S') (ha : ak F K A A') (hP : ∀ k, k < 6 → ¬ P k) (hF : ¬ F 6) (hK : ∀ k, 1 ≤ k → k < 6 → ¬ K k) : XN S' A' := by
  unfold XN
  rw [(hs (0, 0, 0) (hP 0 (by decide))).1, (hs (1, 0, 0) (hP 1 (by decide))).1, (hs (2, 0, 0) (hP 2 (by decide))).1, (hs (3, 0, 0) (hP 3 (by decide))).1, (hs (4, 0, 0) (hP 4 (by decide))).1, (hs (5, 0, 0) (hP 5 (by decide))).1, ha.1 6 hF, (ha.2 1 (hK 1 (by decide) (by decide))).1, (ha.2 2 (hK 2 (by decide) (by decide))).1, (ha.2 3 (hK 3 (by decide) (by decide))).1, (ha.2 4 (hK 4 (by decide) (by decide))).1, (ha.2 5 (hK 5 (by decide) (by decide))).1]
  exact x
/-- coins change -/
theorem XN.fr1 {S S' : CS} {A A' : MS} {P F K : Nat → Prop} (x : XN S A) (hs : sk P S S') (ha : ak F K A A') (hP : ∀ k, k < 6 → k ≠ 1 → ¬ P k) (hF : ¬ F 6) (hK : ∀ k, 2 ≤ k → k < 6 → ¬ K k) (hc : S'.1 (1, 0, 0) = A'.2.1 1) : XN S' A' := by
  unfold XN
  rw [(hs (0, 0, 0) (hP 0 (by decide) (by decide))).1, hc, (hs (2, 0, 0) (hP 2 (by decide) (by decide))).1, (hs (3, 0, 0) (hP 3 (by decide) (by decide))).1, (hs (4, 0, 0) (hP 4 (by decide) (by decide))).1, (hs (5, 0, 0) (hP 5 (by decide) (by decide))).1, ha.1 6 hF, (ha.2 2 (hK 2 (by decide) (by decide))).1, (ha.2 3 (hK 3 (by decide) (by decide))).1, (ha.2 4 (hK 4 (by decide) (by decide))).1, (ha.2 5 (hK 5 (by decide) (by decide))).1]
  exact ⟨x.1, rfl, x.2.2⟩
theorem XK.fr {S S' : CS} {A A' : MS} {P F K : Nat → Prop} (x : XK S A) (hs : sk P S S') (ha : ak F K A A') (hP : ¬ P 6 ∧ ¬ P 7 ∧ ¬ P 8) (hF : ¬ F 25) (hK : ¬ K 23 ∧ ¬ K 24) : XK S' A' := by
  unfold XK cdis
  rw [(hs (6, 0, 0) hP.1).2.2, (hs (7, 0, 0) hP.2.1).2.1, (hs (8, 0, 0) hP.2.2).1, ha.1 25 hF, (ha.2 23 hK.1).2, (ha.2 24 hK.2).1]
  exact x
theorem XR.fr {S S' : CS} {A A' : MS} {P F K : Nat → Prop} (x : XR S A) (hs : sk P S S') (ha : ak F K A A') (hP : ∀ k, 11 ≤ k → k < 15 → ¬ P k) (hF : ¬ F 28 ∧ ¬ F 30) (hK : ¬ K 25) : XR S' A' := by
  obtain ⟨B, b, r⟩ := x
  refine ⟨B, ?_, ?_⟩
  · unfold bestB
    rw [(hs (11, 0, 0) (hP 11 (by decide) (by decide))).2.2, (hs (12, 0, 0) (hP 12 (by decide) (by decide))).1, (hs (13, 0, 0) (hP 13 (by decide) (by decide))).1, (hs (14, 0, 0) (hP 14 (by decide) (by decide))).1]
    exact b
  · unfold RepB
    rw [ha.1 28 hF.1, ha.1 30 hF.2, (ha.2 25 hK).1]
    exact r
/-- channels, promises and known secrets stay known -/
def Mon (S S' : CS) : Prop := kC S ≤ kC S' ∧ (∀ c, c < kC S → kw S' c 0 = kw S c 0 ∧ kw S' c 1 = kw S c 1 ∧ kn S c ≤ kn S' c ∧ ∀ q, q < kn S c → kp S' c q 4 = kp S c q 4 ∧ S'.2.1 (26, c, q) 0 = S.2.1 (26, c, q) 0) ∧ ∀ x, (∃ k, k < S.2.2.1 (6, 0, 0) 0 ∧ S.2.1 (7, 0, 0) k = x) → ∃ k, k < S'.2.2.1 (6, 0, 0) 0 ∧ S'.2.1 (7, 0, 0) k = x
theorem Mon.refl (S : CS) : Mon S S := ⟨Nat.le_refl _, fun _ _ => ⟨rfl, rfl, Nat.le_refl _, fun _ _ => ⟨rfl, rfl⟩⟩, fun _ h => h⟩
theorem Mon.trans {S S' S'' : CS} (h : Mon S S') (h' : Mon S' S'') : Mon S S'' := by
  refine ⟨Nat.le_trans h.1 h'.1, fun c hc => ?_, fun x hx => h'.2.2 x (h.2.2 x hx)⟩
  obtain ⟨a1, a2, a3, a4⟩ := h.2.1 c hc
  obtain ⟨b1, b2, b3, b4⟩ := h'.2.1 c (Nat.lt_of_lt_of_le hc h.1)
  refine ⟨b1.trans a1, b2.trans a2, Nat.le_trans a3 b3, fun q hq => ?_⟩
  obtain ⟨d1, d2⟩ := a4 q hq
  obtain ⟨e1, e2⟩ := b4 q (Nat.lt_of_lt_of_le hq a3)
  exact ⟨e1.trans d1, e2.trans d2⟩
/-- a payment that the operation doesn't touch -/
theorem YY.fr {S S' : CS} {A A' : MS} {p : Nat} (y : YY S A p) (hm : Mon S S') (hs : ∀ k, 27 ≤ k → k ≤ 32 → S'.1 (k, p, 0) = S.1 (k, p, 0)) (hg : S'.2.1 (27, p, 0) = S.2.1 (27, p, 0)) (hw : S'.2.2.1 (27, p, 0) = S.2.2.1 (27, p, 0)) (hz : S'.2.2.2 (27, p, 0) = S.2.2.2 (27, p, 0))
    (ha : ∀ k, 29 ≤ k → k ≤ 35 → A'.2.1 k p = A.2.1 k p) (hj : A'.2.2 36 p = A.2.2 36 p) (hb : ∀ k i, 37 ≤ k → k ≤ 41 → i < 5 → A'.2.1 k (5 * p + i) = A.2.1 k (5 * p + i)) : YY S' A' p := by
  obtain ⟨y1, y2, y3, y4, y5⟩ := y
  unfold YY
  rw [hs 27 (by decide) (by decide), hs 28 (by decide) (by decide), hs 29 (by decide) (by decide), hs 30 (by decide) (by decide), hs 31 (by decide) (by decide), hs 32 (by decide) (by decide), hg, hw, hz, ha 29 (by decide) (by decide), ha 30 (by decide) (by decide), ha 31 (by decide) (by decide), ha 32 (by decide) (by decide), ha 33 (by decide) (by decide), ha 34 (by decide) (by decide), ha 35 (by decide) (by decide), hj]
  refine ⟨y1, y2, y3, fun z => hm.2.2 _ (y4 z), fun i hi => ?_⟩
  have h5 := y2.1
  obtain ⟨c, v, z1, z2, z3, z4, z5, z6, z7, z8, z9, z10⟩ := y5 i hi
  obtain ⟨m1, m2, m3, m4⟩ := hm.2.1 c z1
  rw [hb 37 i (by decide) (by decide) (by omega), hb 38 i (by decide) (by decide) (by omega), hb 39 i (by decide) (by decide) (by omega), hb 40 i (by decide) (by decide) (by omega), hb 41 i (by decide) (by decide) (by omega)]
  refine ⟨c, v, Nat.lt_of_lt_of_le z1 hm.1, by rw [m1, m2]; exact z2, z3, z4, z5, z6, z7, z8, z9, fun hm' => ?_⟩
  obtain ⟨q, w1, w2, w3, w4, w5⟩ := z10 hm'
  obtain ⟨n1, n2⟩ := m4 q w1
  exact ⟨q, Nat.lt_of_lt_of_le w1 m3, w2, w3, n1.trans w4, n2.trans w5⟩
theorem XP.fr {S S' : CS} {A A' : MS} {P F K : Nat → Prop} (x : XP S A) (hm : Mon S S') (hs : sk P S S') (hz : S'.2.2.2 (10, 0, 0) 0 = S.2.2.2 (10, 0, 0) 0) (hz2 : ∀ p, S'.2.2.2 (27, p, 0) = S.2.2.2 (27, p, 0)) (ha : ak F K A A') (hP : ∀ k, 27 ≤ k → k ≤ 32 → ¬ P k) (hF : ¬ F 34) (hK : ∀ k, 29 ≤ k → k ≤ 41 → ¬ K k) : XP S' A' := by
  obtain ⟨x1, x2, x3, x4⟩ := x
  have e : kP S' = kP S := hz
  unfold XP
  rw [e, ha.1 34 hF]
  refine ⟨x1, x2, fun p hp => (x3 p hp).fr hm (fun k h1 h2 => (hs (k, p, 0) (hP k h1 h2)).1) (hs (27, p, 0) (hP 27 (by decide) (by decide))).2.1 (hs (27, p, 0) (hP 27 (by decide) (by decide))).2.2 (hz2 p) (fun k h1 h2 => by rw [(ha.2 k (hK k h1 (by omega))).1]) (by rw [(ha.2 36 (hK 36 (by decide) (by decide))).2]) (fun k i h1 h2 _ => by rw [(ha.2 k (hK k (by omega) h2)).1]), fun p h1 h2 => ?_⟩
  unfold pfr
  rw [(ha.2 29 (hK 29 (by decide) (by decide))).1, (ha.2 30 (hK 30 (by decide) (by decide))).1, (ha.2 31 (hK 31 (by decide) (by decide))).1, (ha.2 32 (hK 32 (by decide) (by decide))).1, (ha.2 33 (hK 33 (by decide) (by decide))).1]
  exact x4 p h1 h2
/-- secrets -/
theorem XK.has {S : CS} {A : MS} (x : XK S A) (k : Int64) : mhas A (S.2.2.1 (6, 0, 0) 0) k = chas S k := by
  unfold mhas chas shas
  rw [x.2.1]
theorem i_and1 (x : Int32) : (x &&& 1 = 1) ↔ ¬ (x &&& 1 = 0) := by
  have e : ∀ y : BitVec 32, (y &&& 1#32 = 1#32) ↔ ¬ (y &&& 1#32 = 0#32) := fun y => by
    rw [BitVec.and_one_eq_setWidth_ofBool_getLsbD]
    cases y.getLsbD 0 <;> simp
  rw [← Int32.toBitVec_inj, ← Int32.toBitVec_inj, Int32.toBitVec_and]
  exact e x.toBitVec
theorem XK.knows {S : CS} {A : MS} (x : XK S A) (n : Int32) (k : Int64) : mknows A (S.2.2.1 (6, 0, 0) 0) n k = cknows S n k := by
  unfold mknows cknows sknows
  rw [x.2.1, x.2.2.1]
  cases mfind (A.2.2 23) k (S.2.2.1 (6, 0, 0) 0) with
  | none => rfl
  | some j => exact decide_eq_decide.mpr (i_and1 _)
theorem mfind_iff {f : Nat → Int64} {k : Int64} {n : Nat} : mfind f k n = none ↔ ∀ i, i < n → f i ≠ k := by
  constructor
  · induction n with
    | zero => exact fun _ i hi => absurd hi (by omega)
    | succ n ih =>
      intro h i hi
      unfold mfind at h
      by_cases e : f n = k
      · rw [if_pos e] at h
        cases h
      · rw [if_neg e] at h
        by_cases e2 : i = n
        · rw [e2]
          exact e
        · exact ih h i (by omega)
  · exact mfind_none
theorem XK.learn {S : CS} {A : MS} (x : XK S A) {k : Int64} (w : Int32) (hh : chas S k = true) : XK (clearn S k w) (mlearn A (S.2.2.1 (6, 0, 0) 0) k w) := by
  obtain ⟨x1, x2, x3, x4, x5⟩ := x
  unfold clearn mlearn
  rw [← x2]
  cases hf : mfind (S.2.1 (7, 0, 0)) k (S.2.2.1 (6, 0, 0) 0) with
  | some j =>
    simp only
    refine ⟨?_, ?_, ?_, ?_, ?_⟩
    · rw [cfI_w, mI_f]
      exact x1
    · rw [cfI_g, mI_j]
      exact x2
    · funext i
      rw [cfI_i, mI_i, x3]
      simp
    · rw [cfI_w]
      exact x4
    · rw [cfI_w, cfI_g]
      exact x5
  | none =>
    have hK : S.2.2.1 (6, 0, 0) 0 < 24 := by
      unfold chas shas at hh
      rw [hf] at hh
      simpa using hh
    have hn := mfind_iff.mp hf
    simp only
    have w1 : (cfN (cfI (cfJ S (7, 0, 0) (S.2.2.1 (6, 0, 0) 0) k) (8, 0, 0) (S.2.2.1 (6, 0, 0) 0) w) (6, 0, 0) 0 (S.2.2.1 (6, 0, 0) 0 + 1)).2.2.1 (6, 0, 0) 0 = S.2.2.1 (6, 0, 0) 0 + 1 := by
      rw [cfN_n]
      simp
    have w2 : ∀ i, (cfN (cfI (cfJ S (7, 0, 0) (S.2.2.1 (6, 0, 0) 0) k) (8, 0, 0) (S.2.2.1 (6, 0, 0) 0) w) (6, 0, 0) 0 (S.2.2.1 (6, 0, 0) 0 + 1)).2.1 (7, 0, 0) i = if i = S.2.2.1 (6, 0, 0) 0 then k else S.2.1 (7, 0, 0) i := fun i => by
      rw [cfN_g, cfI_g, cfJ_j]
      simp
    have w3 : ∀ i, (cfN (cfI (cfJ S (7, 0, 0) (S.2.2.1 (6, 0, 0) 0) k) (8, 0, 0) (S.2.2.1 (6, 0, 0) 0) w) (6, 0, 0) 0 (S.2.2.1 (6, 0, 0) 0 + 1)).1 (8, 0, 0) i = if i = S.2.2.1 (6, 0, 0) 0 then w else S.1 (8, 0, 0) i := fun i => by
      rw [cfN_f, cfI_i, cfJ_f]
      simp
    refine ⟨?_, ?_, ?_, ?_, ?_⟩
    · rw [w1, mI_f, mF_f, if_pos rfl, xn_succ]
    · funext i
      rw [w2, mI_j, mF_j, mI_j, mJ_j, ← x2]
      simp
    · funext i
      rw [w3, mI_i, mF_i, mI_i, mJ_i, ← x3]
      by_cases e : i = S.2.2.1 (6, 0, 0) 0
      · simp [e]
      · simp [e]
    · rw [w1]
      omega
    · rw [w1]
      intro i j hi hj z
      rw [w2, w2] at z
      by_cases e1 : i = S.2.2.1 (6, 0, 0) 0 <;> by_cases e2 : j = S.2.2.1 (6, 0, 0) 0
      · omega
      · rw [if_pos e1, if_neg e2] at z
        exact absurd z.symm (hn j (by omega))
      · rw [if_neg e1, if_pos e2] at z
        exact absurd z (hn i (by omega))
      · rw [if_neg e1, if_neg e2] at z
        exact x5 i j (by omega) (by omega) z
theorem clearn_sk (S : CS) (k : Int64) (w : Int32) : sk (fun k => 6 ≤ k ∧ k ≤ 8) S (clearn S k w) := by
  unfold clearn
  split
  · exact (sk.refl _ S).I (by decide)
  · exact (((sk.refl _ S).J (by decide)).I (by decide)).N (by decide)
theorem clearn_chS (S : CS) (k : Int64) (w : Int32) (j : Nat) : chS S (clearn S k w) j := by
  refine ⟨fun r h1 h2 _ => clearn_sk S k w r (by omega), by rw [clearn_z]⟩
theorem mlearn_ak (A : MS) (K : Nat) (k : Int64) (w : Int32) : ak (fun j => j = 25) (fun k => k = 23 ∨ k = 24) A (mlearn A K k w) := by
  unfold mlearn
  split
  · exact ak.I (ak.refl _ _ A) (Or.inr rfl)
  · exact ak.I (ak.F (ak.I (ak.J (ak.refl (fun j => j = 25) (fun k => k = 23 ∨ k = 24) A) (Or.inl rfl)) (Or.inr rfl)) (show (fun j => j = 25) 25 from rfl)) (Or.inr rfl)
theorem mlearn_chM (A : MS) (K : Nat) (k : Int64) (w : Int32) (j : Nat) : chM A (mlearn A K k w) j := by
  intro a b h1 h2 _
  rw [((mlearn_ak A K k w).2 a (by omega)).1, ((mlearn_ak A K k w).2 a (by omega)).2]
  exact ⟨rfl, rfl⟩
theorem clearn_has (S : CS) (k : Int64) (w : Int32) : (∃ i, i < (clearn S k w).2.2.1 (6, 0, 0) 0 ∧ (clearn S k w).2.1 (7, 0, 0) i = k) ∧ ∀ x, (∃ i, i < S.2.2.1 (6, 0, 0) 0 ∧ S.2.1 (7, 0, 0) i = x) → ∃ i, i < (clearn S k w).2.2.1 (6, 0, 0) 0 ∧ (clearn S k w).2.1 (7, 0, 0) i = x := by
  unfold clearn
  cases hf : mfind (S.2.1 (7, 0, 0)) k (S.2.2.1 (6, 0, 0) 0) with
  | some j =>
    simp only [cfI_w, cfI_g]
    obtain ⟨h1, h2⟩ := mfind_lt hf
    exact ⟨⟨j, h1, h2⟩, fun x hx => hx⟩
  | none =>
    simp only [cfN_n, cfN_g, cfI_g, cfJ_j, true_and, if_pos]
    refine ⟨⟨S.2.2.1 (6, 0, 0) 0, by omega, by simp⟩, fun x hx => ?_⟩
    obtain ⟨i, h1, h2⟩ := hx
    exact ⟨i, by omega, by rw [if_neg (by omega)]; exact h2⟩
theorem clearn_Mon (S : CS) (k : Int64) (w : Int32) : Mon S (clearn S k w) := by
  have h := clearn_sk S k w
  have z := clearn_z S k w
  refine ⟨by unfold kC; rw [z]; exact Nat.le_refl _, fun c _ => ⟨?_, ?_, ?_, fun q _ => ⟨?_, ?_⟩⟩, (clearn_has S k w).2⟩
  · unfold kw
    rw [(h (21, c, 0) (by show ¬ (6 ≤ 21 ∧ 21 ≤ 8); omega)).2.2]
  · unfold kw
    rw [(h (21, c, 0) (by show ¬ (6 ≤ 21 ∧ 21 ≤ 8); omega)).2.2]
  · unfold kn
    rw [z]
    exact Nat.le_refl _
  · unfold kp
    rw [(h (26, c, q) (by show ¬ (6 ≤ 26 ∧ 26 ≤ 8); omega)).1]
  · rw [(h (26, c, q) (by show ¬ (6 ≤ 26 ∧ 26 ≤ 8); omega)).2.1]
/-- coins -/
theorem tot_ext {f g : Nat → Int} : ∀ n, (∀ i, i < n → f i = g i) → tot f n = tot g n
  | 0, _ => rfl
  | n + 1, h => by
    unfold tot
    rw [tot_ext n (fun i hi => h i (by omega)), h n (by omega)]
theorem tot_upd {f g : Nat → Int} {i : Nat} : ∀ n, i < n → (∀ k, k < n → k ≠ i → g k = f k) → tot g n = tot f n + (g i - f i)
  | 0, h, _ => absurd h (by omega)
  | n + 1, h, hg => by
    unfold tot
    by_cases e : i = n
    · subst e
      rw [tot_ext (f := g) (g := f) i (fun k hk => hg k (by omega) (by omega))]
      omega
    · rw [tot_upd n (by omega) (fun k hk h => hg k (by omega) h), hg n (by omega) (fun z => e z.symm)]
      omega
theorem tot_nonneg {f : Nat → Int} : ∀ n, (∀ i, i < n → 0 ≤ f i) → 0 ≤ tot f n
  | 0, _ => Int.le_refl _
  | n + 1, h => by
    unfold tot
    have := tot_nonneg n (fun i hi => h i (by omega))
    have := h n (by omega)
    omega
theorem tot_le {f : Nat → Int} {i : Nat} : ∀ n, (∀ i, i < n → 0 ≤ f i) → i < n → f i ≤ tot f n
  | 0, _, h => absurd h (by omega)
  | n + 1, h, hi => by
    unfold tot
    have h0 := tot_nonneg n (fun i hi => h i (by omega))
    have h1 := h n (by omega)
    by_cases e : i = n
    · subst e
      omega
    · have := tot_le n (fun i hi => h i (by omega)) (show i < n by omega)
      omega
theorem CC.held {S : CS} {A : MS} {j : Nat} (c : CC S A j) : 0 ≤ (kf S j 7).toInt := by
  obtain ⟨c1, c2, c3, c4, c5, c6, c7, c8, c9⟩ := c
  have c9' := c9
  obtain ⟨T, hT, hb, h0, h1, h2⟩ := c9'
  rcases c4.2.2.2.1 with z | z | z
  · rw [h0 z]
    obtain ⟨t1, t2, t3, -⟩ := C9.top (k := 0) c6 c9 (Nat.zero_le (kw S j 5))
    have := hb 0 (Nat.zero_le _)
    omega
  · rcases c4.1 with e | ⟨⟨q, hq, e⟩, -⟩
    · exact absurd e (c4.2.2.1 z)
    · rw [h1 z q hq e]
      obtain ⟨l1, -, -⟩ := c9.lft c6 hq
      obtain ⟨t1, t2, t3, -⟩ := C9.top (k := 0) c6 c9 hq
      split <;> omega
  · rw [h2 z]
    exact Int.le_refl _
theorem XM1.le {S : CS} {A : MS} (m : XM1 S) (x : XC1 S A) : (∀ i, i < 6 → 0 ≤ (S.1 (1, 0, 0) i).toInt ∧ (S.1 (1, 0, 0) i).toInt ≤ 6000000) ∧ ∀ j, j < kC S → 0 ≤ (kf S j 7).toInt ∧ (kf S j 7).toInt ≤ 6000000 := by
  obtain ⟨m1, m2⟩ := m
  have hh : ∀ j, j < kC S → 0 ≤ (kf S j 7).toInt := fun j hj => (x.2.2.1 j hj).held
  have n1 := tot_nonneg (f := fun i => (S.1 (1, 0, 0) i).toInt) 6 m1
  have n2 := tot_nonneg (f := fun j => (kf S j 7).toInt) (kC S) hh
  refine ⟨fun i hi => ⟨m1 i hi, ?_⟩, fun j hj => ⟨hh j hj, ?_⟩⟩
  · have := tot_le (f := fun i => (S.1 (1, 0, 0) i).toInt) 6 m1 hi
    omega
  · have := tot_le (f := fun j => (kf S j 7).toInt) (kC S) hh hj
    omega
theorem XM1.fr {S S' : CS} (m : XM1 S) (hc : S'.1 (1, 0, 0) = S.1 (1, 0, 0)) (hC : kC S' = kC S) (hh : ∀ j, j < kC S → kf S' j 7 = kf S j 7) : XM1 S' := by
  unfold XM1
  rw [hc, hC, tot_ext (kC S) (fun j hj => by show (kf S' j 7).toInt = (kf S j 7).toInt; rw [hh j hj])]
  exact m
