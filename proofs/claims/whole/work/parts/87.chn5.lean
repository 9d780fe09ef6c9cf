/- Part 87: a new channel on both sides; what the other channels keep. -/
theorem mfr.frM {A A' : MS} {j : Nat} (m : mfr A j) (h : chM A A' j) : mfr A' j := by
  have s : ∀ k, 6 ≤ k → k ≤ 22 → k ≠ 10 → k ≠ 11 → k ≠ 14 → k ≠ 15 → k ≠ 16 → k ≠ 17 → A'.2.1 k j = A.2.1 k j := fun k h1 h2 a b c d e f => (h k j h1 h2 (by unfold chIx; simp [a, b, c, d, e, f])).1
  have t : A'.2.2 11 (64 * j) = A.2.2 11 (64 * j) := (h 11 (64 * j) (by omega) (by omega) (by unfold chIx; rw [if_neg (by omega), if_pos (by omega)]; omega)).2
  unfold mfr
  rw [t, s 8 (by decide) (by decide) (by decide) (by decide) (by decide) (by decide) (by decide) (by decide), s 9 (by decide) (by decide) (by decide) (by decide) (by decide) (by decide) (by decide) (by decide), s 13 (by decide) (by decide) (by decide) (by decide) (by decide) (by decide) (by decide) (by decide), s 18 (by decide) (by decide) (by decide) (by decide) (by decide) (by decide) (by decide) (by decide), s 20 (by decide) (by decide) (by decide) (by decide) (by decide) (by decide) (by decide) (by decide), s 22 (by decide) (by decide) (by decide) (by decide) (by decide) (by decide) (by decide) (by decide)]
  exact m
theorem chIx_s {k j i : Nat} (hk : k ≠ 10 ∧ k ≠ 11 ∧ k ≠ 14 ∧ k ≠ 15 ∧ k ≠ 16 ∧ k ≠ 17) (h : j ≠ i) : k < 6 ∨ 22 < k ∨ ¬ chIx k j i := by
  refine Or.inr (Or.inr ?_)
  unfold chIx
  rw [if_neg (by omega), if_neg (by omega)]
  omega
theorem mpub_chM (A : MS) {j j' q : Nat} {n : Int32} (h : j' ≠ j) : chM A (mpub A j q n) j' := by
  unfold mpub
  exact ((((((chM.refl A j').F).I (chIx_s (by decide) h)).I (chIx_s (by decide) h)).I (chIx_s (by decide) h)).I (chIx_s (by decide) h)).J (chIx_s (by decide) h)
theorem mpun_chM (A : MS) {j j' o : Nat} (h : j' ≠ j) : chM A (mpun A j o) j' := by
  unfold mpun
  exact (((chM.refl A j').I (Or.inl (by decide))).I (chIx_s (by decide) h)).I (chIx_s (by decide) h)
theorem mclose_chM (A : MS) {j j' l f s : Nat} (h : j' ≠ j) : chM A (mclose A j l f s) j' := by
  unfold mclose
  simp only
  exact (((((chM.refl A j').F).I (Or.inl (by decide))).I (Or.inl (by decide))).I (chIx_s (by decide) h)).I (chIx_s (by decide) h)
theorem mset1_chM {A A' : MS} {j j' q s o : Nat} (c : chM A A' j') (h : j' ≠ j) : chM A (mset1 A' j q s o) j' := by
  unfold mset1
  simp only
  exact (c.I (Or.inl (by decide))).I (chIx_s (by decide) h)
theorem mset_chM (A : MS) {j j' q f s : Nat} (h : j' ≠ j) : chM A (mset A j q f s) j' := by
  have e := mset1_chM (q := q) (s := 1) (o := s) (mset1_chM (q := q) (s := 0) (o := f) (((chM.refl A j').F (i := 0) (x := 0)).I (x := 1) (chIx_s (k := 22) (by decide) h)) h) h
  unfold mset
  simp only
  split
  · exact (e.I (chIx_s (by decide) h)).I (chIx_s (by decide) h)
  · exact e
theorem mgo_chM (A : MS) {j j' k o : Nat} (h : j' ≠ j) : chM A (mgo A j k o) j' := by
  have e : chM A (mgo3 A j k o) j' := (((chM.refl A j').J (chIx_s (by decide) h)).I (Or.inl (by decide))).I (chIx_s (by decide) h)
  rw [mgo_eq]
  split
  · exact (e.I (chIx_s (by decide) h)).I (chIx_s (by decide) h)
  · exact e
theorem mopen_chM (A : MS) {n j' f s : Nat} {a b : Int32} (h : j' ≠ n) : chM A (mopen A n f s a b) j' := by
  unfold mopen
  simp only
  refine ((((((((((chM.refl A j').F).F).I (chIx_s (by decide) h)).I (chIx_s (by decide) h)).I (Or.inl (by decide))).I (Or.inl (by decide))).I ?_).I ?_).I (chIx_s (by decide) h))
  all_goals
    refine Or.inr (Or.inr ?_)
    unfold chIx
    rw [if_pos rfl]
    omega
/-- the class's state with a new channel -/
def cnew (S : CS) (fi si : Nat) (a b : Int32) (c : Nat) (mo : Int32) : CS := czl (cop0 (cop1 S fi si a b) (kC S) fi si a b) (9, 0, 0) (kC S + 1) c mo
section X87
variable (S : CS) (fi si : Nat) (a b : Int32) (c : Nat) (mo : Int32)
theorem cnew_C : kC (cnew S fi si a b c mo) = kC S + 1 := by
  unfold kC cnew czl zset
  simp
theorem cnew_i (r : RO) (h : r ≠ (9, 0, 0)) (h1 : r ≠ (1, 0, 0)) (h2 : ∀ k, 21 ≤ k → k ≤ 24 → r ≠ (k, kC S, 0)) : (cnew S fi si a b c mo).1 r = S.1 r := by
  unfold cnew czl cop0
  simp only
  rw [if_neg h, if_neg (h2 21 (by decide) (by decide)), if_neg (h2 22 (by decide) (by decide)), if_neg (h2 23 (by decide) (by decide)), if_neg (h2 24 (by decide) (by decide))]
  unfold cop1
  rw [cfI_f, if_neg h1, cfI_f, if_neg h1]
theorem cnew_g (r : RO) : (cnew S fi si a b c mo).2.1 r = S.2.1 r := by
  show (cop1 S fi si a b).2.1 r = _
  unfold cop1
  rw [cfI_g, cfI_g]
theorem cnew_w (r : RO) (h : r ≠ (21, kC S, 0)) : (cnew S fi si a b c mo).2.2.1 r = S.2.2.1 r := by
  show (if r = (21, kC S, 0) then chw0 fi si else (cop1 S fi si a b).2.2.1 r) = _
  rw [if_neg h]
  unfold cop1
  rw [cfI_w, cfI_w]
theorem cnew_z (r : RO) (h : r ≠ (9, 0, 0)) (h2 : r ≠ (24, kC S, 0)) : (cnew S fi si a b c mo).2.2.2 r = S.2.2.2 r := by
  unfold cnew czl zset cop0 cop1
  simp only
  rw [if_neg h, if_neg h2]
  rfl
theorem cnew_co : (cnew S fi si a b c mo).1 (1, 0, 0) = upd (upd (S.1 (1, 0, 0)) fi (S.1 (1, 0, 0) fi - a)) si (upd (S.1 (1, 0, 0)) fi (S.1 (1, 0, 0) fi - a) si - b) := by
  unfold cnew czl cop0
  simp only
  rw [if_neg (by simp), if_neg (by simp), if_neg (by simp), if_neg (by simp), if_neg (by simp)]
  unfold cop1
  rw [cfI_f, if_pos rfl, cfI_f, if_pos rfl]
theorem cnew_chS {j : Nat} (h : j ≠ kC S) : chS S (cnew S fi si a b c mo) j := by
  refine ⟨fun r h1 h2 h3 => ⟨?_, cnew_g S fi si a b c mo r, ?_⟩, ?_⟩
  · refine cnew_i S fi si a b c mo r (fun z => by rw [z] at h1; exact absurd h1 (by show ¬ 21 ≤ 9; omega)) (fun z => by rw [z] at h1; exact absurd h1 (by show ¬ 21 ≤ 1; omega)) (fun k _ _ z => h (by rw [z] at h3; exact h3.symm))
  · exact cnew_w S fi si a b c mo r (fun z => h (by rw [z] at h3; exact h3.symm))
  · rw [cnew_z S fi si a b c mo _ (by simp) (by simp [h])]
end X87
theorem CC.newc {S : CS} {A : MS} {fi si : Nat} {a b : Int32} (m : mfr A (kC S)) (hf : fi < 6) (hs : si < 6) (hn : fi ≠ si) (ha : 0 ≤ a.toInt) (hb : 0 ≤ b.toInt) (hab : a.toInt + b.toInt ≤ 12000000) (c : Nat) (mo : Int32) : CC (cnew S fi si a b c mo) (mopen A (kC S) fi si a b) (kC S) := by
  have vf : (cnew S fi si a b c mo).1 (21, kC S, 0) = chf0 a b := by
    unfold cnew czl cop0
    simp
  have v1 : (cnew S fi si a b c mo).1 (22, kC S, 0) = upd (fun _ => 0) 0 a := by
    unfold cnew czl cop0
    simp
  have v2 : (cnew S fi si a b c mo).1 (23, kC S, 0) = upd (fun _ => 0) 0 b := by
    unfold cnew czl cop0
    simp
  have vw : (cnew S fi si a b c mo).2.2.1 (21, kC S, 0) = chw0 fi si := by
    unfold cnew czl cop0
    simp
  have vn : (cnew S fi si a b c mo).2.2.2 (24, kC S, 0) 0 = 0 := by
    unfold cnew czl zset cop0
    simp
  obtain ⟨m1, m2, m3, m4, m5, m6, m7⟩ := m
  have hA : ∀ k i, k ≠ 1 → k ≠ 6 → k ≠ 7 → k ≠ 10 → k ≠ 12 → (mopen A (kC S) fi si a b).2.1 k i = A.2.1 k i := fun k i h1 h2 h3 h4 h5 => by
    unfold mopen
    simp only [mI_i, mF_i]
    simp [h1, h2, h3, h4, h5]
  have hJ : (mopen A (kC S) fi si a b).2.2 = A.2.2 := rfl
  refine ⟨?_, ?_, ?_, ?_, ?_, ?_, ?_, ?_, ?_⟩
  · unfold C1 kw
    rw [vw]
    refine ⟨?_, ?_, hf, hs, hn⟩
    · unfold mopen
      simp only [mI_i, mF_i]
      simp [chw0]
    · unfold mopen
      simp only [mI_i, mF_i]
      simp [chw0]
  · unfold C2 kw kn
    rw [vw, vn, hA 9 _ (by decide) (by decide) (by decide) (by decide) (by decide), hA 13 _ (by decide) (by decide) (by decide) (by decide) (by decide)]
    exact ⟨m2, by show 0 < 64; decide, m3, Nat.zero_le _⟩
  · unfold C3 kf
    rw [vf, hA 8 _ (by decide) (by decide) (by decide) (by decide) (by decide), hA 18 _ (by decide) (by decide) (by decide) (by decide) (by decide), hA 20 _ (by decide) (by decide) (by decide) (by decide) (by decide), hA 22 _ (by decide) (by decide) (by decide) (by decide) (by decide)]
    refine ⟨m1, ?_, m4, m5, m6⟩
    unfold mopen
    rw [mI_i, if_pos ⟨rfl, rfl⟩]
    rfl
  · unfold C4 kf
    rw [vf]
    exact ⟨Or.inl rfl, fun _ => ⟨rfl, rfl⟩, fun z => absurd z (by show ¬ (0 : Int32) = 1; decide), Or.inl rfl, Or.inl rfl⟩
  · intro l hl
    unfold kw at hl
    rw [vw] at hl
    have hl' : l ≤ 0 := hl
    obtain rfl : l = 0 := by omega
    rw [v1, v2]
    unfold mopen
    simp only [mI_i]
    constructor
    · rw [if_neg (by simp), if_neg (by omega), if_pos ⟨by trivial, by trivial⟩]
      rfl
    · rw [if_neg (by simp), if_pos ⟨by trivial, by trivial⟩]
      rfl
  · intro k hk
    unfold kn at hk
    rw [vn] at hk
    omega
  · intro l hl k hk
    unfold kw at hl
    rw [vw] at hl
    have hl' : l ≤ 0 := hl
    obtain rfl : l = 0 := by omega
    unfold kn
    rw [vn, hJ, Nat.add_zero, m7, (gb_zero 0).mp rfl k hk]
    simp
  · unfold C8 kf kn
    rw [vf, vn]
    exact ⟨fun _ k hk => by omega, fun q hq z => absurd z.symm (nI_m1 (by unfold kw at hq; rw [vw] at hq; have : q ≤ 0 := hq; omega))⟩
  · refine ⟨a.toInt + b.toInt, hab, fun l hl => ?_, fun _ => ?_, fun z => ?_, fun z => ?_⟩
    · unfold kw at hl
      rw [vw] at hl
      have hl' : l ≤ 0 := hl
      obtain rfl : l = 0 := by omega
      rw [v1, v2]
      have hp : psum (cnew S fi si a b c mo) (kC S) 0 = 0 := by
        unfold psum kn
        rw [vn]
        rfl
      rw [hp]
      refine ⟨ha, hb, ?_⟩
      show a.toInt + b.toInt + 0 = _
      omega
    · unfold kf
      rw [vf]
      show (a + b).toInt = _
      exact i_add (by omega) (by omega)
    · unfold kf at z
      rw [vf] at z
      exact absurd z (by show ¬ (0 : Int32) = 1; decide)
    · unfold kf at z
      rw [vf] at z
      exact absurd z (by show ¬ (0 : Int32) = 2; decide)
