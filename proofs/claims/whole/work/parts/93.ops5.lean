/- Part 93: class and model side by side: punish, close, settle, take back, claim. -/
theorem Cpl.coinC {S T : CS} {A A' : MS} {j : Nat} {f : Nat → Int32} {he : Nat → Int} (C : Cpl S A) (hj : j < kC S) (hT1 : ∀ r : RO, r.1 ≠ 1 → (∀ q, r ≠ (26, j, q)) → T.1 r = S.1 r) (hT2 : ∀ q i, i ≠ 7 → T.1 (26, j, q) i = S.1 (26, j, q) i) (hT3 : ∀ r : RO, T.2.1 r = S.2.1 r ∧ T.2.2.1 r = S.2.2.1 r) (hz : T.2.2.2 = S.2.2.2) (a : ak (fun _ => False) (fun k => k = 1 ∨ 8 ≤ k ∧ k ≤ 22) A A') (c : CC (cset T (21, j, 0) f (S.2.1 (21, j, 0)) (S.2.2.1 (21, j, 0))) A' j) (hc : T.1 (1, 0, 0) = A'.2.1 1) (m : MM (T.1 (1, 0, 0)) he (kC S)) (he1 : (f 7).toInt = he j) (he2 : ∀ i, i ≠ j → he i = (kf S i 7).toInt) (hM : ∀ j', j' ≠ j → chM A A' j') : Cpl (cset T (21, j, 0) f (S.2.1 (21, j, 0)) (S.2.2.1 (21, j, 0))) A' := by
  have s : sk (fun k => k = 1 ∨ 21 ≤ k ∧ k ≤ 26) S (cset T (21, j, 0) f (S.2.1 (21, j, 0)) (S.2.2.1 (21, j, 0))) := by
    refine sk.put (fun r hr => ⟨hT1 r (fun z => hr (Or.inl z)) (fun q z => hr (Or.inr (by rw [z]; exact ⟨by show 21 ≤ 26; omega, by show 26 ≤ 26; omega⟩))), hT3 r⟩) (Or.inr ⟨by show 21 ≤ 21; omega, by show 21 ≤ 26; omega⟩) _ _ _
  have w : ∀ r : RO, (cset T (21, j, 0) f (S.2.1 (21, j, 0)) (S.2.2.1 (21, j, 0))).2.2.1 r = S.2.2.1 r := fun r => by
    rw [cset_w]
    split
    · rename_i z
      rw [z]
    · exact (hT3 r).2
  have g : ∀ r : RO, (cset T (21, j, 0) f (S.2.1 (21, j, 0)) (S.2.2.1 (21, j, 0))).2.1 r = S.2.1 r := fun r => by
    rw [cset_g]
    split
    · rename_i z
      rw [z]
    · exact (hT3 r).1
  have p : ∀ c q i, i ≠ 7 → kp (cset T (21, j, 0) f (S.2.1 (21, j, 0)) (S.2.2.1 (21, j, 0))) c q i = kp S c q i := fun c q i hi => by
    unfold kp
    rw [cset_f, if_neg (by simp)]
    by_cases e : c = j
    · rw [e]
      exact hT2 q i hi
    · rw [hT1 _ (by show 26 ≠ 1; omega) (fun q' z => e (by injection z with _ z; injection z))]
  refine C.chanC s a hz (cs_Mon w hz (fun c q => p c q 4 (by decide)) g) hj c ?_ (by rw [cset_f, if_neg (by simp)]; exact hc) (m.xm (by rw [cset_f, if_neg (by simp)]) (by unfold kC; rw [cset_z, hz]) (fun i _ => ?_)) (fun j' h => ?_) hM
  · rw [cnt_same (S := S) (w _) hz (fun q => ⟨p j q 5 (by decide), p j q 6 (by decide)⟩)]
    exact C.2.2.2.2.2.2 j hj
  · rw [cset_kf]
    by_cases e : i = j
    · rw [if_pos e, e]
      exact he1
    · rw [if_neg e, he2 i e]
      unfold kf
      rw [hT1 _ (by show 21 ≠ 1; omega) (fun q z => by cases z)]
  · refine ⟨fun r h1 h2 h3 => ⟨?_, g r, w r⟩, by rw [cset_z, hz]⟩
    rw [cset_f, if_neg (fun z => h (by rw [← h3, z]))]
    exact hT1 r (by omega) (fun q z => h (by rw [← h3, z]))
theorem cmay_eq {S : CS} {A : MS} (C : Cpl S A) {j : Nat} (hj : j < kC S) : mmay A j = cmay S j := by
  have cc := C.2.2.1.2.2.1 _ hj
  unfold mmay cmay cpun
  rw [cc.2.2.1.1, cc.2.2.1.2.2.1, cc.2.1.1, cc.2.2.1.2.2.2.1, C.1.1]
theorem CC.oth {S : CS} {A : MS} {j : Nat} (cc : CC S A j) (h1 : kf S j 9 ≠ -1) : moth A j = nI (cpv S j) ∧ cpv S j < 6 := by
  obtain ⟨c1, c2, c3, c4, -⟩ := cc
  rcases c4.1 with z | ⟨-, z, y⟩
  · exact absurd z h1
  · unfold moth cpv
    rw [z]
    obtain ⟨s1, s2, s3⟩ := c1.side (kf S j 8)
    obtain ⟨n1, n2, n3, n4⟩ := c1.node
    by_cases e : kf S j 8 = nI (kw S j 0)
    · rw [(s2 e).1, if_pos e]
      exact ⟨n3, c1.two.2⟩
    · have e' := y.resolve_left e
      rw [(s3 e').1, if_neg e]
      exact ⟨n4, c1.two.1⟩
theorem mF1_coins (A : MS) (x : Int32) : (mF A 0 x).2.1 = A.2.1 := rfl
theorem Cpl.pun {S : CS} {A : MS} {j : Nat} (C : Cpl S A) (hj : j < kC S) (h1 : kf S j 6 = 1) : Cpl (cpunc S j) (mpun A j (cpv S j)) := by
  have cc := C.2.2.1.2.2.1 _ hj
  have c := cc.pun (o := cpv S j) h1
  obtain ⟨o1, o2⟩ := cc.oth (cc.2.2.2.1.2.2.1 h1)
  have m := (C.2.2.2.1.mm C.2.2.1).one (v := kf S j 7) o2 hj cc.held (Int.le_refl _)
  have hco : S.1 (1, 0, 0) = A.2.1 1 := C.1.2.1
  refine C.coinC (he := fun i => if i = j then (kf S j 7).toInt - (kf S j 7).toInt else (kf S i 7).toInt) hj (fun r h1 _ => (cfI1_same S _ _ r h1).1) (fun q i _ => by rw [cfI_f, if_neg (by simp)]) (fun r => ⟨cfI_g .., cfI_w ..⟩) rfl ?_ c ?_ ?_ ?_ ?_ (fun j' h => mpun_chM A h)
  · unfold mpun
    exact ((((ak.refl _ _ A).I (Or.inl rfl)).I (by decide)).I (by decide))
  · rw [cfI_f, if_pos rfl, hco, show S.1 (21, j, 0) 7 = A.2.1 12 j from cc.2.2.1.2.1.symm]
    rfl
  · rw [cfI_f, if_pos rfl]
    exact m.1
  · rw [if_pos rfl]
    show (0 : Int32).toInt = _
    rw [Int.sub_self]
    rfl
  · intro i hi
    rw [if_neg hi]
theorem p_pun {S : CS} {A : MS} {c : Int32} (C : Cpl S A) : tPun A c (ck c) = cd [8, 10] (ePunC S c (ck c)) ∧ (ePunC S c (ck c) = none → Cpl (cpunc S (ck c)) (mpun (mF A 0 0) (ck c) (cpv S (ck c))) ∧ (moth A (ck c) = nI (cpv S (ck c)) ∧ cpv S (ck c) < 6)) := by
  have he := isc_eq C.2.2.1 c
  unfold tPun ePunC
  rw [he]
  by_cases h1 : cAt S c = true
  · obtain ⟨-, h2⟩ := C.2.2.1.at h1
    rw [if_pos h1, if_pos h1, cmay_eq C h2]
    by_cases h3 : cmay S (ck c) = true
    · rw [if_pos h3, if_pos h3]
      refine ⟨rfl, fun _ => ?_⟩
      have h4 : kf S (ck c) 6 = 1 := (of_decide_eq_true h3).1
      have cc := C.2.2.1.2.2.1 _ h2
      exact ⟨(C.F0 0).pun h2 h4, cc.oth (cc.2.2.2.1.2.2.1 h4)⟩
    · rw [if_neg h3, if_neg h3]
      exact ⟨rfl, fun z => by cases z⟩
  · rw [if_neg h1, if_neg h1]
    exact ⟨rfl, fun z => by cases z⟩
/-- the balances of a state go to the two nodes -/
theorem MM.two {S : CS} {A : MS} {j l : Nat} (C : Cpl S A) (hj : j < kC S) (hl : l ≤ kw S j 5) (hle : (S.1 (22, j, 0) l).toInt + (S.1 (23, j, 0) l).toInt ≤ (kf S j 7).toInt) : MM (cco S j l) (fun i => if i = j then (kf S j 7).toInt - ((S.1 (22, j, 0) l).toInt + (S.1 (23, j, 0) l).toInt) else (kf S i 7).toInt) (kC S) := by
  have cc := C.2.2.1.2.2.1 _ hj
  obtain ⟨T, hT, hb, -⟩ := cc.2.2.2.2.2.2.2.2
  obtain ⟨b1, b2, -⟩ := hb l hl
  have m1 := (C.2.2.2.1.mm C.2.2.1).one (v := S.1 (22, j, 0) l) cc.1.two.1 hj b1 (by show _ ≤ (kf S j 7).toInt; omega)
  have m2 := m1.1.one (v := S.1 (23, j, 0) l) cc.1.two.2 hj b2 (by rw [if_pos rfl]; show _ ≤ (kf S j 7).toInt - _; omega)
  have m := m2.1
  rw [show (fun i => if i = j then (kf S j 7).toInt - ((S.1 (22, j, 0) l).toInt + (S.1 (23, j, 0) l).toInt) else (kf S i 7).toInt) = (fun i => if i = j then (if j = j then (kf S j 7).toInt - (S.1 (22, j, 0) l).toInt else (kf S j 7).toInt) - (S.1 (23, j, 0) l).toInt else (if i = j then (kf S j 7).toInt - (S.1 (22, j, 0) l).toInt else (kf S i 7).toInt)) from funext (fun i => by by_cases e : i = j <;> simp only [e, if_true, if_false]; omega)]
  exact m
