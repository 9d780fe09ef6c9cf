/- Part 90: class and model answer alike: hop, made, state, drop, promise. -/
theorem RepR.get {r : Nat → Int32} : ∀ {B : SP} {j q : Nat} {e : Nat × Int32 × Int64}, RepR r j B → B[q]? = some e → r (j + q) = nI e.1
  | [], _, _, _, _, h => by cases h
  | b :: B, j, 0, e, h, hq => by
    cases hq
    exact h.1
  | b :: B, j, q + 1, e, h, hq => by
    have := RepR.get (q := q) (e := e) h.2.2 hq
    rw [show j + 1 + q = j + (q + 1) by omega] at this
    exact this
theorem RepY.get {c p m : Nat → Int32} : ∀ {B : SP} {q : Nat} {e : Nat × Int32 × Int64}, RepY c p m B → B[q]? = some e → c (B.length - 1 - q) = nI e.1 ∧ p (B.length - 1 - q) = e.2.1 ∧ (m (B.length - 1 - q)).toInt64 = e.2.2 ∧ e.1 < 8
  | [], _, _, _, h => by cases h
  | b :: B, 0, e, h, hq => by
    cases hq
    show c (B.length + 1 - 1 - 0) = _ ∧ _
    rw [show (b :: B).length - 1 - 0 = B.length by simp]
    exact ⟨h.1, h.2.2.1, h.2.2.2.1, h.2.1⟩
  | b :: B, q + 1, e, h, hq => by
    have := RepY.get (q := q) (e := e) h.2.2.2.2 hq
    rw [show (b :: B).length - 1 - (q + 1) = B.length - 1 - q by simp; omega]
    exact this
theorem p_hop {S : CS} {A : MS} {i : Int32} (C : Cpl S A) : tHop A i = cd [8] (eHop S i) ∧ (eHop S i = none → rHop A (ck i) i = rHopC S (ck i) i) ∧ S.2.2.1 (11, 0, 0) 0 ≤ 5 ∧ A.1 28 = nI (S.2.2.1 (11, 0, 0) 0) := by
  obtain ⟨B, ⟨b1, b2, b3⟩, r1, r2, r3, -⟩ := C.2.2.2.2.2.1
  have hm : (-1 : Int32).toInt = -1 := by decide
  have e : (-1 ≤ i ∧ i ≤ A.1 28 - 1) ↔ (i = -1 ∨ (0 ≤ i ∧ i < nI (S.2.2.1 (11, 0, 0) 0))) := by
    rw [r1, b1, le_pred (by omega), lt_n (by omega), le_0, Int32.le_iff_toInt_le, hm]
    constructor
    · intro h
      by_cases z : i.toInt = -1
      · exact Or.inl (i_inj (by rw [z, hm]))
      · exact Or.inr (by omega)
    · intro h
      rcases h with h | h
      · rw [h, hm]
        omega
      · omega
  refine ⟨?_, fun h => ?_, by omega, by rw [r1, b1]⟩
  · unfold tHop eHop
    by_cases z : i = -1 ∨ (0 ≤ i ∧ i < nI (S.2.2.1 (11, 0, 0) 0))
    · rw [if_pos (e.mpr z), if_pos z]
      rfl
    · rw [if_neg (fun y => z (e.mp y)), if_neg z]
      rfl
  · unfold eHop at h
    unfold rHop rHopC
    by_cases z : i = -1 ∨ (0 ≤ i ∧ i < nI (S.2.2.1 (11, 0, 0) 0))
    · by_cases y : i = -1
      · rw [if_pos y, if_pos y, r1, b1]
      · rw [if_neg y, if_neg y]
        rcases z with z | ⟨z1, z2⟩
        · exact absurd z y
        · rw [le_0] at z1
          rw [lt_n (by omega), b1] at z2
          obtain ⟨e1, e2⟩ := ck_of z1 (by omega)
          have hl : ck i < B.length := by omega
          have hg : B[ck i]? = some B[ck i] := List.getElem?_eq_getElem hl
          have h1 := r3.get hg
          obtain ⟨h2, -⟩ := b3.get hg
          rw [Nat.zero_add] at h1
          rw [h1, b1, h2]
    · rw [if_neg z] at h
      cases h
/-- ends of a channel -/
theorem C1.side {S : CS} {A : MS} {j : Nat} (c1 : C1 S A j) (n : Int32) : (mside A j n ≠ -1 ↔ (n = nI (kw S j 0) ∨ n = nI (kw S j 1))) ∧ (n = nI (kw S j 0) → mside A j n = nI 0 ∧ msd A j n = 0) ∧ (n = nI (kw S j 1) → mside A j n = nI 1 ∧ msd A j n = 1) := by
  obtain ⟨h1, h2, h3, h4, h5⟩ := c1
  unfold mside msd
  rw [h1, h2]
  have hne : nI (kw S j 1) ≠ nI (kw S j 0) := fun z => h5 ((xn_inj (by omega) (by omega)).mp z).symm
  refine ⟨?_, fun z => ?_, fun z => ?_⟩
  · by_cases e : n = nI (kw S j 0)
    · rw [if_pos e]
      exact ⟨fun _ => Or.inl e, fun _ => by decide⟩
    · rw [if_neg e]
      by_cases e2 : n = nI (kw S j 1)
      · rw [if_pos e2]
        exact ⟨fun _ => Or.inr e2, fun _ => by decide⟩
      · rw [if_neg e2]
        exact ⟨fun h => absurd rfl h, fun h => by rcases h with h | h; exact absurd h e; exact absurd h e2⟩
  · rw [if_pos z, if_pos z]
    exact ⟨rfl, rfl⟩
  · rw [z, if_neg hne, if_neg hne, if_pos rfl]
    exact ⟨rfl, rfl⟩
theorem C1.node {S : CS} {A : MS} {j : Nat} (c1 : C1 S A j) : mnode A j 0 = nI (kw S j 0) ∧ mnode A j 1 = nI (kw S j 1) ∧ mnode A j (1 - 0) = nI (kw S j 1) ∧ mnode A j (1 - 1) = nI (kw S j 0) := by
  obtain ⟨h1, h2, -⟩ := c1
  unfold mnode
  rw [h1, h2]
  exact ⟨rfl, rfl, rfl, rfl⟩
/-- payer and payee of a promise -/
theorem C6.ends {S : CS} {A : MS} {j k : Nat} (c1 : C1 S A j) (c6 : C6 S A j) (hk : k < kn S j) : ∃ r, r < 2 ∧ A.2.1 14 (64 * j + k) = nI r ∧ kq S j k 0 = kw S j r ∧ kq S j k 1 = kw S j (1 - r) ∧ (1 - A.2.1 14 (64 * j + k)) = nI (1 - r) ∧ mnode A j (A.2.1 14 (64 * j + k)) = nI (kq S j k 0) ∧ mnode A j (1 - A.2.1 14 (64 * j + k)) = nI (kq S j k 1) := by
  obtain ⟨n1, n2, n3, n4⟩ := c1.node
  rcases (c6 k hk).1 with ⟨e1, e2, e3⟩ | ⟨e1, e2, e3⟩
  · exact ⟨0, by decide, e1, e2, e3, by rw [e1]; rfl, by rw [e1, n1, e2], by rw [e1, n3, e3]⟩
  · exact ⟨1, by decide, e1, e2, e3, by rw [e1]; rfl, by rw [e1, n2, e2], by rw [e1, n4, e3]⟩
/-- a promise of the latest state -/
theorem CC.lat {S : CS} {A : MS} {j : Nat} (c : CC S A j) (k : Int32) : mbit (mnow A j (kw S j 5)) k = lAt S k j (ck k) := by
  obtain ⟨c1, c2, c3, c4, c5, c6, c7, c8, c9⟩ := c
  have hL := c2.2.1
  have hN := c2.2.2.2
  by_cases h : inr0 k 64 = true
  · obtain ⟨e1, e2⟩ := inr0_of (by decide) h
    have h1 := mbit_gb (mnow A j (kw S j 5)) e2
    have h2 := c7 _ (Nat.le_refl _) (ck k) e2
    unfold mnow at h1 ⊢
    rw [← e1] at h1
    rw [h1, h2]
    unfold lAt pin
    have h3 := inr0_n (q := ck k) (n := kn S j) (by omega) (by omega)
    rw [← e1] at h3
    rw [h3]
  · have z1 : mbit (mnow A j (kw S j 5)) k = false := by
      cases e : mbit (mnow A j (kw S j 5)) k with
      | false => rfl
      | true =>
        unfold mbit at e
        obtain ⟨e1, e2, -⟩ := of_decide_eq_true e
        exact absurd (decide_eq_true ⟨e1, e2⟩) h
    rw [z1]
    unfold lAt
    cases e : inr0 k (S.2.2.2 (24, j, 0) 0) with
    | false => rfl
    | true =>
      exfalso
      apply h
      unfold inr0 at e ⊢
      obtain ⟨e1, e2⟩ := of_decide_eq_true e
      refine decide_eq_true ⟨e1, ?_⟩
      have e3 : k < nI (kn S j) := e2
      rw [lt_n (by omega)] at e3
      rw [lt_n (by decide)]
      omega
theorem lAt_of {S : CS} {j : Nat} {k : Int32} (hn : kn S j < 2 ^ 31) (h : lAt S k j (ck k) = true) : k = nI (ck k) ∧ ck k < kn S j ∧ pin S j (kw S j 5) (ck k) = true := by
  unfold lAt at h
  obtain ⟨h1, h2⟩ := Bool.and_eq_true_iff.mp h
  obtain ⟨e1, e2⟩ := inr0_of hn h1
  exact ⟨e1, e2, h2⟩
theorem CC.room {S : CS} {A : MS} {j : Nat} (c : CC S A j) : (A.2.1 9 j + 1 < 64) ↔ nI (kw S j 5) < 63 := by
  have hL := c.2.1.2.1
  rw [c.2.1.1, xn_succ]
  show nI (kw S j 5 + 1) < nI 64 ↔ nI (kw S j 5) < nI 63
  rw [xn_lt (by omega) (by decide), xn_lt (by omega) (by decide)]
  omega
theorem p_made {S : CS} {A : MS} {c k w : Int32} (C : Cpl S A) : tMade A c k w (ck c) = cd [8, 9] (eMade S c k w (ck c)) ∧ (eMade S c k w (ck c) = none → rMade A (ck c) (kw S (ck c) 5) (ck k) w = rMadeC S (ck c) (ck k) w) := by
  have he := isc_eq C.2.2.1 c
  unfold tMade eMade
  rw [he]
  by_cases h1 : cAt S c = true
  · obtain ⟨-, h2⟩ := C.2.2.1.at h1
    have cc := C.2.2.1.2.2.1 _ h2
    have cc' := cc
    obtain ⟨c1, c2, c3, c4, c5, c6, c7, c8, c9⟩ := cc'
    have hL := c2.2.1
    have hN := c2.2.2.2
    have e : (0 ≤ k ∧ k ≤ A.2.1 13 (ck c) - 1) ↔ inr0 k (S.2.2.2 (24, ck c, 0) 0) = true := by
      rw [c2.2.2.1, le_pred (by omega)]
      unfold inr0
      rw [decide_eq_true_eq]
    have ee : (cAt S c = true ∧ 0 ≤ k ∧ k ≤ A.2.1 13 (ck c) - 1) ↔ (cAt S c = true ∧ inr0 k (S.2.2.2 (24, ck c, 0) 0) = true) := by rw [e]
    by_cases h3 : cAt S c = true ∧ inr0 k (S.2.2.2 (24, ck c, 0) 0) = true
    · rw [if_pos (ee.mpr h3), if_pos h3]
      refine ⟨by split <;> rfl, fun _ => ?_⟩
      obtain ⟨e1, e2⟩ := inr0_of (by show kn S (ck c) < _; omega) h3.2
      have e2' : ck k < kn S (ck c) := e2
      obtain ⟨r, r1, r2, r3, r4, r5, r6, r7⟩ := c6.ends c1 e2'
      obtain ⟨-, d1, d2, d3, -⟩ := c6 _ e2'
      unfold rMade rMadeC
      rw [r6, d1, d3, mbit_gb _ (by omega)]
      unfold mnow
      rw [c7 _ (Nat.le_refl _) _ (by omega), decide_eq_true e2', Bool.true_and]
      rfl
    · rw [if_neg (fun z => h3 (ee.mp z)), if_neg h3]
      exact ⟨rfl, fun z => by cases z⟩
  · rw [if_neg (fun z => h1 z.1), if_neg (fun z => h1 z.1)]
    exact ⟨rfl, fun z => by cases z⟩
theorem stN_eq {S : CS} {A : MS} {j l : Nat} (c2 : C2 S A j) (c7 : C7 S A j) (hl : l ≤ kw S j 5) : ∀ n, n ≤ kn S j → stN A j l n = cpr (fun k => kp S j k 5) (fun k => kp S j k 6) (nI l) n
  | 0, _ => rfl
  | n + 1, h => by
    have := c2.2.1
    have := c2.2.2.2
    unfold stN cpr
    rw [stN_eq c2 c7 hl n (by omega), mbit_gb _ (by omega), c7 l hl n (by omega), decide_eq_true (show n < kn S j by omega), Bool.true_and]
    rfl
theorem stS_eq {S : CS} {A : MS} {j l : Nat} (c2 : C2 S A j) (c6 : C6 S A j) (c7 : C7 S A j) (hl : l ≤ kw S j 5) : ∀ n, n ≤ kn S j → stS A j l n = spr (fun k => kp S j k 2) (fun k => kp S j k 5) (fun k => kp S j k 6) (nI l) n
  | 0, _ => rfl
  | n + 1, h => by
    have := c2.2.1
    have := c2.2.2.2
    unfold stS spr
    rw [stS_eq c2 c6 c7 hl n (by omega), mbit_gb _ (by omega), c7 l hl n (by omega), decide_eq_true (show n < kn S j by omega), Bool.true_and, (c6 n (by omega)).2.1]
    rfl
theorem p_state {S : CS} {A : MS} {c s w : Int32} (C : Cpl S A) : tState A c s w (ck c) = cd [8, 9] (eState S c s w (ck c)) ∧ (eState S c s w (ck c) = none → rState A (ck c) (ck s) (kn S (ck c)) w = rStateC S (ck c) (ck s) w) := by
  have he := isc_eq C.2.2.1 c
  unfold tState eState
  rw [he]
  by_cases h1 : cAt S c = true
  · obtain ⟨-, h2⟩ := C.2.2.1.at h1
    obtain ⟨c1, c2, c3, c4, c5, c6, c7, c8, c9⟩ := C.2.2.1.2.2.1 _ h2
    have hL := c2.2.1
    have hN := c2.2.2.2
    rw [c2.1]
    by_cases h3 : cAt S c = true ∧ (0 ≤ s ∧ s ≤ nI (S.2.2.1 (21, ck c, 0) 5))
    · rw [if_pos h3, if_pos h3]
      by_cases hw : 0 ≤ w ∧ w ≤ 3
      · rw [if_pos hw, if_pos hw]
        refine ⟨rfl, fun _ => ?_⟩
        have s1 := le_0.mp h3.2.1
        have s2 := (le_n (n := kw S (ck c) 5) (by omega)).mp h3.2.2
        obtain ⟨e1, e2⟩ := ck_of s1 (by omega)
        have hs : ck s ≤ kw S (ck c) 5 := by omega
        have w1 := le_0.mp hw.1
        have w2 : w.toInt ≤ 3 := Int32.le_iff_toInt_le.mp hw.2
        obtain ⟨f1, f2⟩ := ck_of w1 (by omega)
        have hw' : ck w = 0 ∨ ck w = 1 ∨ ck w = 2 ∨ ck w = 3 := by omega
        obtain ⟨b1, b2⟩ := c5 _ hs
        unfold rState rStateC
        rcases hw' with z | z | z | z
        · rw [z] at f1
          subst f1
          rw [if_pos (by decide), if_pos (by decide)]
          exact b1
        · rw [z] at f1
          subst f1
          rw [if_pos (by decide), if_neg (by decide), if_pos (by decide)]
          exact b2
        · rw [z] at f1
          subst f1
          rw [if_neg (by decide), if_pos (by decide), if_neg (by decide), if_neg (by decide), if_pos (by decide)]
          exact stN_eq c2 c7 hs _ (Nat.le_refl _)
        · rw [z] at f1
          subst f1
          rw [if_neg (by decide), if_neg (by decide), if_neg (by decide), if_neg (by decide), if_neg (by decide)]
          exact stS_eq c2 c6 c7 hs _ (Nat.le_refl _)
      · rw [if_neg hw, if_neg hw]
        exact ⟨rfl, fun z => by cases z⟩
    · rw [if_neg h3, if_neg h3]
      exact ⟨rfl, fun z => by cases z⟩
  · rw [if_neg (fun z => h1 z.1), if_neg (fun z => h1 z.1)]
    exact ⟨rfl, fun z => by cases z⟩
/-- one channel changes, without coins and secrets -/
theorem Cpl.chan {S S' : CS} {A A' : MS} {j0 : Nat} (C : Cpl S A) (s : sk (fun k => 21 ≤ k ∧ k ≤ 26) S S') (a : ak (fun _ => False) (fun k => 8 ≤ k ∧ k ≤ 22) A A') (hz : S'.2.2.2 (9, 0, 0) = S.2.2.2 (9, 0, 0) ∧ S'.2.2.2 (10, 0, 0) = S.2.2.2 (10, 0, 0) ∧ ∀ p, S'.2.2.2 (27, p, 0) = S.2.2.2 (27, p, 0)) (hm : Mon S S') (h0 : j0 < kC S) (c : CC S' A' j0) (hb : cnt (pin S' j0 (kw S' j0 5)) (kn S' j0) ≤ 6) (hh : kf S' j0 7 = kf S j0 7) (hS : ∀ j, j ≠ j0 → chS S S' j) (hM : ∀ j, j ≠ j0 → chM A A' j) : Cpl S' A' := by
  obtain ⟨x1, x2, x3, x4, x5, x6, x7⟩ := C
  have hC : kC S' = kC S := by
    unfold kC
    rw [hz.1]
  refine ⟨x1.fr s a (fun k h => by omega) id (fun k h1 h2 => by omega), x2.fr s a (by decide) id (by decide), x3.one hC (a.1 7 id) h0 c hS hM, x4.fr ((s (1, 0, 0) (by decide)).1) hC (fun j _ => ?_), x5.fr hm s (by rw [hz.2.1]) hz.2.2 a (fun k h1 h2 => by omega) id (fun k h1 h2 => by omega), x6.fr s a (fun k h1 h2 => by omega) ⟨id, id⟩ (by decide), x7.one hC hb hS⟩
  by_cases e : j = j0
  · rw [e]
    exact hh
  · unfold kf
    rw [((hS j e).1 (21, j, 0) (by show 21 ≤ 21; omega) (by show 21 ≤ 26; omega) rfl).1]
theorem cendp_sk (S : CS) (j k : Nat) (rc : Int32) : sk (fun k => 21 ≤ k ∧ k ≤ 26) S (cendp S j k rc) := by
  unfold cendp cst
  exact (((((sk.refl _ S).I (by show 21 ≤ 22 ∧ 22 ≤ 26; omega)).I (by show 21 ≤ 23 ∧ 23 ≤ 26; omega)).N (by show 21 ≤ 21 ∧ 21 ≤ 26; omega))).I (by show 21 ≤ 26 ∧ 26 ≤ 26; omega)
theorem mnext_ak (A : MS) (j l : Nat) (side by0 : Int32) (set : Int64) : ak (fun _ => False) (fun k => 8 ≤ k ∧ k ≤ 22) A (mnext A j l side by0 set) := by
  unfold mnext
  simp only
  exact ((((ak.refl _ _ A).I (by decide)).I (by decide)).I (by decide)).J (by decide)
theorem cendp_Mon (S : CS) (j k : Nat) (rc : Int32) : Mon S (cendp S j k rc) := by
  have s := cendp_sk S j k rc
  refine mon_of (Nat.le_refl _) (fun c _ => ⟨?_, ?_, Nat.le_refl _, fun q _ => ⟨?_, ?_⟩⟩) ((s (6, 0, 0) (by decide)).2.2) ((s (7, 0, 0) (by decide)).2.1)
  · unfold kw
    rw [cendp_w, if_neg (by simp)]
  · unfold kw
    rw [cendp_w, if_neg (by simp)]
  · unfold kp
    rw [cendp_i, if_neg (by simp), cst_i _ _ _ _ _ (by simp) (by simp)]
  · rw [cendp_g]
/-- a promise ends: to the payer, to the payee -/
theorem Cpl.endp {S : CS} {A : MS} {j k r : Nat} {side by0 : Int32} {w : Nat} (C : Cpl S A) (hj : j < kC S) (hk : k < kn S j) (hin : pin S j (kw S j 5) k = true) (hL : kw S j 5 < 63) (h0 : kf S j 6 = 0) (hr : r < 2) (hsd : side = nI r) (hby : by0 = kp S j k 2) (hw : w = kw S j r) : Cpl (cendp S j k (nI w)) (mnext A j (kw S j 5) side by0 (mdel A j (kw S j 5) k)) := by
  subst hsd
  obtain ⟨c, hc⟩ := (C.2.2.1.2.2.1 j hj).endp hk hin hL h0 hr hby hw
  have hb := C.2.2.2.2.2.2 j hj
  exact C.chan (cendp_sk S j k _) (mnext_ak A j _ _ _ _) ⟨rfl, rfl, fun _ => rfl⟩ (cendp_Mon S j k _) hj c (by omega) (by unfold kf; rw [cendp_i, if_neg (by simp), cst_i _ _ _ _ _ (by simp) (by simp)]) (fun j' h => cendp_chS S j k _ h) (fun j' h => mnext_chM A j _ _ _ _ h hL)
theorem p_drop {S : CS} {A : MS} {c k : Int32} (C : Cpl S A) : tDrop A c k (ck c) (kw S (ck c) 5) = cd [8, 10] (eDrop S c k (ck c) (ck k)) ∧ (eDrop S c k (ck c) (ck k) = none → Cpl (cendp S (ck c) (ck k) (nI (kq S (ck c) (ck k) 0))) (mdrop (mF A 0 0) (ck c) (kw S (ck c) 5) (ck k))) := by
  have he := isc_eq C.2.2.1 c
  unfold tDrop eDrop
  rw [he]
  by_cases h1 : cAt S c = true
  · obtain ⟨-, h2⟩ := C.2.2.1.at h1
    have cc := C.2.2.1.2.2.1 _ h2
    have hL := cc.2.1.2.1
    have hN := cc.2.1.2.2.2
    rw [cc.lat k]
    by_cases h3 : cAt S c = true ∧ lAt S k (ck c) (ck k) = true
    · rw [if_pos h3, if_pos h3]
      obtain ⟨e1, e2, e3⟩ := lAt_of (by omega) h3.2
      have hcond : (A.2.1 8 (ck c) ≠ 0 ∨ ¬ A.2.1 9 (ck c) + 1 < 64) ↔ ¬ (S.1 (21, ck c, 0) 6 = 0 ∧ nI (S.2.2.1 (21, ck c, 0) 5) < 63) := by
        rw [cc.room, cc.2.2.1.1, Classical.not_and_iff_not_or_not]
      by_cases h4 : S.1 (21, ck c, 0) 6 = 0 ∧ nI (S.2.2.1 (21, ck c, 0) 5) < 63
      · rw [if_neg (fun z => hcond.mp z h4), if_pos h4]
        refine ⟨rfl, fun _ => ?_⟩
        have hL63 : kw S (ck c) 5 < 63 := (xn_lt (by omega) (by decide)).mp h4.2
        obtain ⟨r, r1, r2, r3, r4, r5, r6, r7⟩ := cc.2.2.2.2.2.1.ends cc.1 e2
        exact (C.F0 0).endp h2 e2 e3 hL63 h4.1 r1 r2 (cc.2.2.2.2.2.1 _ e2).2.1 r3
      · rw [if_pos (hcond.mpr h4), if_neg h4]
        exact ⟨rfl, fun z => by cases z⟩
    · rw [if_neg h3, if_neg h3]
      exact ⟨rfl, fun z => by cases z⟩
  · rw [if_neg (fun z => h1 z.1), if_neg (fun z => h1 z.1)]
    exact ⟨rfl, fun z => by cases z⟩
