/- Part 85: close, publish, punish, settle, on both sides of a channel. -/
theorem C9.lft {S : CS} {A : MS} {j q : Nat} (c6 : C6 S A j) (c9 : C9 S j) (hq : q ≤ kw S j 5) : 0 ≤ lsum S j q ∧ lsum S j q ≤ 12000000 ∧ (lsum S j q = 0 ↔ ∀ k, k < kn S j → plf S j q k = false) := by
  obtain ⟨t1, t2, t3, t4, -⟩ := C9.top (k := 0) c6 c9 hq
  have h1 : ∀ i, i < kn S j → plf S j q i = true → 1 ≤ pam S j i := fun i hi _ => (c6 i hi).2.2.2.2.1
  have h0 : ∀ i, i < kn S j → 0 ≤ pam S j i := fun i hi => by
    have := (c6 i hi).2.2.2.2.1
    omega
  refine ⟨sm_nonneg _ (fun i hi _ => h0 i hi), ?_, sm_pos _ h1⟩
  have : ∀ n, n ≤ kn S j → sm (plf S j q) (pam S j) n ≤ sm (pin S j q) (pam S j) n := by
    intro n
    induction n with
    | zero => exact fun _ => Int.le_refl _
    | succ n ih =>
      intro hn
      unfold sm
      have := ih (by omega)
      have := h0 n (by omega)
      by_cases e : pin S j q n = true
      · rw [if_pos e]
        split <;> omega
      · rw [if_neg e, if_neg (by unfold plf; rw [Bool.eq_false_iff.mpr e]; simp)]
        assumption
  have := this _ (Nat.le_refl _)
  unfold psum at t3 t4
  unfold lsum
  omega
theorem gb_lft {S : CS} {A : MS} {j q : Nat} (c2 : C2 S A j) {lf : Int64} (h : ∀ k, k < 64 → gb lf k = (decide (k < kn S j) && plf S j q k)) : (lf = 0 ↔ ∀ k, k < kn S j → plf S j q k = false) := by
  rw [gb_zero]
  have := c2.2.1
  have := c2.2.2.2
  constructor
  · intro z k hk
    have := h k (by omega)
    rw [z k (by omega), decide_eq_true hk, Bool.true_and] at this
    exact this.symm
  · intro z k hk
    rw [h k hk]
    by_cases e : k < kn S j
    · rw [z k e, Bool.and_false]
    · rw [decide_eq_false e, Bool.false_and]
theorem CC.scal {S S' : CS} {A A' : MS} {j : Nat} (c : CC S A j)
    (hS : ∀ r : RO, 22 ≤ r.1 → r.1 ≤ 26 → r.2.1 = j → S'.1 r = S.1 r ∧ S'.2.1 r = S.2.1 r ∧ S'.2.2.1 r = S.2.2.1 r) (hw : S'.2.2.1 (21, j, 0) = S.2.2.1 (21, j, 0)) (hn : S'.2.2.2 (24, j, 0) 0 = S.2.2.2 (24, j, 0) 0)
    (hA : ∀ k i, chIx k j i → (k = 6 ∨ k = 7 ∨ k = 9 ∨ k = 10 ∨ k = 11 ∨ k = 13 ∨ k = 14 ∨ k = 15 ∨ k = 16 ∨ k = 17) → A'.2.1 k i = A.2.1 k i ∧ A'.2.2 k i = A.2.2 k i)
    (h3 : A'.2.1 8 j = kf S' j 6 ∧ A'.2.1 12 j = kf S' j 7 ∧ A'.2.1 18 j = kf S' j 9 ∧ A'.2.1 20 j = kf S' j 10 ∧ A'.2.1 22 j = kf S' j 11)
    (h4 : (kf S' j 9 = -1 ∨ (∃ q, q ≤ kw S j 5 ∧ kf S' j 9 = nI q) ∧ A'.2.1 19 j = kf S' j 8 ∧ (kf S' j 8 = nI (kw S j 0) ∨ kf S' j 8 = nI (kw S j 1))) ∧ (kf S' j 6 = 0 → kf S' j 9 = -1 ∧ kf S' j 11 = 0) ∧ (kf S' j 6 = 1 → kf S' j 9 ≠ -1) ∧ (kf S' j 6 = 0 ∨ kf S' j 6 = 1 ∨ kf S' j 6 = 2) ∧ (kf S' j 11 = 0 ∨ kf S' j 11 = 1))
    (h8 : (kf S' j 9 = -1 → ∀ k, k < kn S j → bZ (kp S j k 7) = false) ∧ ∀ q, q ≤ kw S j 5 → kf S' j 9 = nI q → ∀ k, k < 64 → gb (A'.2.2 21 j) k = (decide (k < kn S j) && plf S j q k))
    (h9 : (kf S' j 6 = 0 → kf S j 6 = 0 ∧ kf S' j 7 = kf S j 7) ∧ (kf S' j 6 = 1 → ∀ q, q ≤ kw S j 5 → kf S' j 9 = nI q → (kf S' j 7).toInt = (if kf S' j 11 = 0 then (S.1 (22, j, 0) q).toInt + (S.1 (23, j, 0) q).toInt else 0) + lsum S j q) ∧ (kf S' j 6 = 2 → kf S' j 7 = 0)) : CC S' A' j := by
  have hL := c.2.1.2.1
  have hN := c.2.1.2.2.2
  obtain ⟨c1, c2, c3, c4, c5, c6, c7, c8, c9⟩ := c
  have e2 := (hS (22, j, 0) (by show 22 ≤ 22; omega) (by show 22 ≤ 26; omega) rfl).1
  have e3 := (hS (23, j, 0) (by show 22 ≤ 23; omega) (by show 23 ≤ 26; omega) rfl).1
  have e4 := fun k => hS (26, j, k) (by show 22 ≤ 26; omega) (by show 26 ≤ 26; omega) rfl
  have g1 := fun k => (e4 k).1
  have g2 := fun k => (e4 k).2.1
  have g3 := fun k => (e4 k).2.2
  have s : ∀ k, (k = 6 ∨ k = 7 ∨ k = 9 ∨ k = 13) → A'.2.1 k j = A.2.1 k j := fun k hk => (hA k j (by unfold chIx; rw [if_neg (by omega), if_neg (by omega)]) (by omega)).1
  have t : ∀ k i, (k = 11 ∨ k = 14 ∨ k = 15 ∨ k = 16 ∨ k = 17) → i < 64 → A'.2.1 k (64 * j + i) = A.2.1 k (64 * j + i) ∧ A'.2.2 k (64 * j + i) = A.2.2 k (64 * j + i) := fun k i hk hi => hA k (64 * j + i) (by unfold chIx; rw [if_neg (by omega), if_pos hk]; omega) (by omega)
  have u : ∀ l s, l < 64 → s < 2 → A'.2.1 10 (2 * (64 * j + l) + s) = A.2.1 10 (2 * (64 * j + l) + s) := fun l s hl hs => (hA 10 _ (by unfold chIx; rw [if_pos rfl]; omega) (by omega)).1
  have ep : ∀ l, pin S' j l = pin S j l := fun l => by
    funext k
    unfold pin kp
    rw [g1]
  have el : ∀ l, plf S' j l = plf S j l := fun l => by
    funext k
    unfold plf kp
    rw [ep, g1]
  have ea : pam S' j = pam S j := by
    funext k
    unfold pam kp
    rw [g1]
  have es : ∀ l, psum S' j l = psum S j l := fun l => by
    unfold psum kn
    rw [ep, ea, hn]
  have et : ∀ l, lsum S' j l = lsum S j l := fun l => by
    unfold lsum kn
    rw [el, ea, hn]
  refine ⟨?_, ?_, h3, ?_, ?_, ?_, ?_, ?_, ?_⟩
  · unfold C1 kw
    rw [s 6 (by decide), s 7 (by decide), hw]
    exact c1
  · unfold C2 kw kn
    rw [s 9 (by decide), s 13 (by decide), hw, hn]
    exact c2
  · unfold C4 kw
    rw [hw]
    exact h4
  · intro l hl
    unfold kw at hl
    rw [hw] at hl
    have hl : l ≤ kw S j 5 := hl
    rw [u l 0 (by omega) (by omega), u l 1 (by omega) (by omega), e2, e3]
    exact c5 l hl
  · intro k hk
    unfold kn at hk
    rw [hn] at hk
    have hk' : k < kn S j := hk
    rw [(t 14 k (by decide) (by omega)).1, (t 15 k (by decide) (by omega)).1, (t 16 k (by decide) (by omega)).2, (t 17 k (by decide) (by omega)).1, ea]
    unfold kq kw kp
    rw [hw, g1, g2, g3]
    exact c6 k hk
  · intro l hl k hk
    unfold kw at hl
    rw [hw] at hl
    have hl : l ≤ kw S j 5 := hl
    rw [(t 11 l (by decide) (by omega)).2, ep]
    unfold kn
    rw [hn]
    exact c7 l hl k hk
  · unfold C8 kw kn kp
    simp only [hw, hn, g1, el]
    exact h8
  · obtain ⟨T, hT, hb, h1, -⟩ := c9
    unfold C9 kw
    rw [hw, e2, e3]
    refine ⟨T, hT, fun l hl => ?_, fun z => ?_, fun z q hq => ?_, h9.2.2⟩
    · rw [es]
      exact hb l hl
    · obtain ⟨z1, z2⟩ := h9.1 z
      rw [z2]
      exact h1 z1
    · rw [et]
      exact h9.2.1 z q hq
/-- what the class does to the channel's own ints -/
theorem cs_view {S T : CS} {j : Nat} {f : Nat → Int32} (h : ∀ r : RO, r.1 ≠ 1 → T.1 r = S.1 r ∧ T.2.1 r = S.2.1 r ∧ T.2.2.1 r = S.2.2.1 r) (hz : T.2.2.2 = S.2.2.2) : (∀ r : RO, 22 ≤ r.1 → r.1 ≤ 26 → r.2.1 = j → (cset T (21, j, 0) f (S.2.1 (21, j, 0)) (S.2.2.1 (21, j, 0))).1 r = S.1 r ∧ (cset T (21, j, 0) f (S.2.1 (21, j, 0)) (S.2.2.1 (21, j, 0))).2.1 r = S.2.1 r ∧ (cset T (21, j, 0) f (S.2.1 (21, j, 0)) (S.2.2.1 (21, j, 0))).2.2.1 r = S.2.2.1 r) ∧ (cset T (21, j, 0) f (S.2.1 (21, j, 0)) (S.2.2.1 (21, j, 0))).2.2.1 (21, j, 0) = S.2.2.1 (21, j, 0) ∧ (cset T (21, j, 0) f (S.2.1 (21, j, 0)) (S.2.2.1 (21, j, 0))).2.2.2 (24, j, 0) 0 = S.2.2.2 (24, j, 0) 0 ∧ ∀ i, kf (cset T (21, j, 0) f (S.2.1 (21, j, 0)) (S.2.2.1 (21, j, 0))) j i = f i := by
  refine ⟨fun r h1 h2 h3 => ?_, ?_, ?_, fun i => ?_⟩
  · have n : r ≠ (21, j, 0) := fun z => by rw [z] at h1; exact absurd h1 (by show ¬ 22 ≤ 21; omega)
    rw [cset_f, cset_g, cset_w, if_neg n, if_neg n, if_neg n]
    exact h r (by omega)
  · rw [cset_w, if_pos rfl]
  · rw [cset_z, hz]
  · unfold kf
    rw [cset_f, if_pos rfl]
theorem cs_chS {S T : CS} {j j' : Nat} {f : Nat → Int32} {g : Nat → Int64} {w : Nat → Nat} (h : ∀ r : RO, r.1 ≠ 1 → T.1 r = S.1 r ∧ T.2.1 r = S.2.1 r ∧ T.2.2.1 r = S.2.2.1 r) (hz : T.2.2.2 = S.2.2.2) (hj : j' ≠ j) : chS S (cset T (21, j, 0) f g w) j' := by
  refine ⟨fun r h1 h2 h3 => ?_, by rw [cset_z, hz]⟩
  have n : r ≠ (21, j, 0) := fun z => hj (by rw [z] at h3; exact h3.symm)
  rw [cset_f, cset_g, cset_w, if_neg n, if_neg n, if_neg n]
  exact h r (by omega)
theorem cbal_same (S : CS) (j l : Nat) : ∀ r : RO, r.1 ≠ 1 → (cbal S j l).1 r = S.1 r ∧ (cbal S j l).2.1 r = S.2.1 r ∧ (cbal S j l).2.2.1 r = S.2.2.1 r := fun r hr => by
  have n : r ≠ (1, 0, 0) := fun z => hr (by rw [z])
  unfold cbal
  rw [cset_f, cset_g, cset_w, if_neg n, if_neg n, if_neg n]
  exact ⟨rfl, rfl, rfl⟩
theorem cfI1_same (S : CS) (i : Nat) (x : Int32) : ∀ r : RO, r.1 ≠ 1 → (cfI S (1, 0, 0) i x).1 r = S.1 r ∧ (cfI S (1, 0, 0) i x).2.1 r = S.2.1 r ∧ (cfI S (1, 0, 0) i x).2.2.1 r = S.2.2.1 r := fun r hr => by
  have n : r ≠ (1, 0, 0) := fun z => hr (by rw [z])
  rw [cfI_f, cfI_g, cfI_w, if_neg n]
  exact ⟨rfl, rfl, rfl⟩
theorem refl_same (S : CS) : ∀ r : RO, r.1 ≠ 1 → S.1 r = S.1 r ∧ S.2.1 r = S.2.1 r ∧ S.2.2.1 r = S.2.2.1 r := fun _ _ => ⟨rfl, rfl, rfl⟩
theorem CC.publ {S : CS} {A : MS} {j q : Nat} {n : Int32} (c : CC S A j) (hq : q ≤ kw S j 5) (hn : n = nI (kw S j 0) ∨ n = nI (kw S j 1)) (h0 : kf S j 6 = 0) (hh : S.1 (0, 0, 0) 0 = A.1 6) : CC (cpub S j n (nI q)) (mpub A j q n) j := by
  obtain ⟨v1, v2, v3, v4⟩ := cs_view (j := j) (f := upd (upd (upd (upd (S.1 (21, j, 0)) 6 1) 8 n) 9 (nI q)) 10 (S.1 (0, 0, 0) 0)) (refl_same S) rfl
  have hL := c.2.1.2.1
  have c' := c
  obtain ⟨c1, c2, c3, c4, c5, c6, c7, c8, c9⟩ := c'
  obtain ⟨h9, h11⟩ := c4.2.1 h0
  refine c.scal v1 v2 v3 (fun k i _ hk => ?_) ?_ ?_ ?_ ?_
  · unfold mpub
    simp only [mJ_i, mI_i, mJ_j, mI_j, mF_i, mF_j]
    rw [if_neg (by omega), if_neg (by omega), if_neg (by omega), if_neg (by omega), if_neg (by omega)]
    exact ⟨by first | trivial | rfl, by first | trivial | rfl⟩
  · unfold cpub
    simp only [v4]
    unfold mpub
    simp only [mJ_i, mI_i, mF_i]
    simp only [upd]
    simp
    exact ⟨c3.2.1, hh.symm, c3.2.2.2.2⟩
  · unfold cpub
    simp only [v4]
    refine ⟨Or.inr ⟨⟨q, hq, rfl⟩, ?_, hn⟩, fun z => absurd z (by show ¬ (1 : Int32) = 0; decide), fun _ => nI_m1 (q := q) (by omega), Or.inr (Or.inl rfl), Or.inl h11⟩
    unfold mpub
    simp only [mJ_i, mI_i, mF_i]
    simp [upd]
  · unfold cpub
    simp only [v4]
    refine ⟨fun z => absurd z (nI_m1 (q := q) (by omega)), fun q' hq' z k hk => ?_⟩
    have z' : nI q = nI q' := z
    rw [xn_inj (by omega) (by omega)] at z'
    subst z'
    unfold mpub
    rw [mJ_j, if_pos ⟨rfl, rfl⟩, c7 q hq k hk]
    by_cases e : k < kn S j
    · unfold plf
      rw [c8.1 h9 k e]
      simp
    · rw [decide_eq_false e, Bool.false_and, Bool.false_and]
  · unfold cpub
    simp only [v4]
    refine ⟨fun z => absurd z (by show ¬ (1 : Int32) = 0; decide), fun _ q' hq' z => ?_, fun z => absurd z (by show ¬ (1 : Int32) = 2; decide)⟩
    have z' : nI q = nI q' := z
    rw [xn_inj (by omega) (by omega)] at z'
    subst z'
    obtain ⟨T, hT, hb, h1, -⟩ := c9
    have h1 := h1 h0
    have hb := hb q hq
    have hs : lsum S j q = psum S j q := sm_ext _ (fun i hi => by unfold plf; rw [c8.1 h9 i hi]; simp) (fun _ _ _ => rfl)
    rw [hs]
    show (S.1 (21, j, 0) 7).toInt = (if S.1 (21, j, 0) 11 = 0 then _ else _) + _
    have h11' : S.1 (21, j, 0) 11 = 0 := h11
    rw [if_pos h11']
    unfold kf at h1
    omega
theorem CC.pun {S : CS} {A : MS} {j o : Nat} (c : CC S A j) (h1 : kf S j 6 = 1) : CC (cpunc S j) (mpun A j o) j := by
  obtain ⟨v1, v2, v3, v4⟩ := cs_view (j := j) (f := upd (upd (S.1 (21, j, 0)) 7 0) 6 2) (cfI1_same S (cpv S j) (S.1 (1, 0, 0) (cpv S j) + S.1 (21, j, 0) 7)) rfl
  have c' := c
  obtain ⟨c1, c2, c3, c4, c5, c6, c7, c8, c9⟩ := c'
  refine c.scal v1 v2 v3 (fun k i _ hk => ?_) ?_ ?_ ?_ ?_
  · unfold mpun
    simp only [mI_i, mI_j]
    rw [if_neg (by omega), if_neg (by omega), if_neg (by omega)]
    exact ⟨by first | trivial | rfl, by first | trivial | rfl⟩
  · unfold cpunc
    simp only [v4]
    unfold mpun
    simp only [mI_i]
    simp only [upd]
    simp
    exact ⟨c3.2.2.1, c3.2.2.2.1, c3.2.2.2.2⟩
  · unfold cpunc
    simp only [v4]
    refine ⟨?_, fun z => absurd z (by show ¬ (2 : Int32) = 0; decide), fun z => absurd z (by show ¬ (2 : Int32) = 1; decide), Or.inr (Or.inr rfl), c4.2.2.2.2⟩
    rcases c4.1 with z | ⟨z1, z2, z3⟩
    · exact Or.inl z
    · refine Or.inr ⟨z1, ?_, z3⟩
      unfold mpun
      simp only [mI_i]
      simp [upd]
      exact z2
  · unfold cpunc
    simp only [v4]
    exact c8
  · unfold cpunc
    simp only [v4]
    exact ⟨fun z => absurd z (by show ¬ (2 : Int32) = 0; decide), fun z => absurd z (by show ¬ (2 : Int32) = 1; decide), fun _ => rfl⟩
theorem CC.clos {S : CS} {A : MS} {j f s : Nat} (c : CC S A j) (h0 : kf S j 6 = 0) (he : ∀ k, k < kn S j → pin S j (kw S j 5) k = false) : CC (cclose S j) (mclose A j (kw S j 5) f s) j ∧ (S.1 (22, j, 0) (kw S j 5)).toInt + (S.1 (23, j, 0) (kw S j 5)).toInt = (kf S j 7).toInt := by
  obtain ⟨v1, v2, v3, v4⟩ := cs_view (j := j) (f := upd (upd (S.1 (21, j, 0)) 7 (che S j (S.2.2.1 (21, j, 0) 5))) 6 2) (cbal_same S j (S.2.2.1 (21, j, 0) 5)) rfl
  have c' := c
  obtain ⟨c1, c2, c3, c4, c5, c6, c7, c8, c9⟩ := c'
  have hs : psum S j (kw S j 5) = 0 := (sm_pos _ (fun i hi _ => (c6 i hi).2.2.2.2.1)).mpr he
  obtain ⟨T, hT, hb, h1, -⟩ := c9
  have h1 := h1 h0
  obtain ⟨b1, b2, b3⟩ := hb _ (Nat.le_refl _)
  have hz : che S j (S.2.2.1 (21, j, 0) 5) = 0 := by
    apply i_inj
    unfold che
    unfold kf kw at *
    rw [i_sub, i_add (by omega) (by omega)]
    · show _ = 0
      omega
    · rw [i_add (by omega) (by omega)]
      omega
    · rw [i_add (by omega) (by omega)]
      omega
  refine ⟨c.scal v1 v2 v3 (fun k i _ hk => ?_) ?_ ?_ ?_ ?_, by omega⟩
  · unfold mclose
    simp only [mI_i, mI_j, mF_i, mF_j]
    rw [if_neg (by omega), if_neg (by omega), if_neg (by omega), if_neg (by omega)]
    exact ⟨by first | trivial | rfl, by first | trivial | rfl⟩
  · unfold cclose
    simp only [v4]
    rw [hz]
    unfold mclose
    simp only [mI_i, mF_i]
    simp only [upd]
    simp
    exact ⟨c3.2.2.1, c3.2.2.2.1, c3.2.2.2.2⟩
  · unfold cclose
    simp only [v4]
    exact ⟨Or.inl (c4.2.1 h0).1, fun z => absurd z (by show ¬ (2 : Int32) = 0; decide), fun z => absurd z (by show ¬ (2 : Int32) = 1; decide), Or.inr (Or.inr rfl), c4.2.2.2.2⟩
  · unfold cclose
    simp only [v4]
    refine ⟨c8.1, fun q hq z => ?_⟩
    have z' : kf S j 9 = nI q := z
    rw [(c4.2.1 h0).1] at z'
    exact absurd z'.symm (nI_m1 (by have := c2.2.1; omega))
  · unfold cclose
    simp only [v4]
    exact ⟨fun z => absurd z (by show ¬ (2 : Int32) = 0; decide), fun z => absurd z (by show ¬ (2 : Int32) = 1; decide), fun _ => hz⟩
