/- Part 99d: class and model side by side: a payment goes on: forward, back. -/
theorem cknows_of {S : CS} {n : Int32} {k : Int64} (h : cknows S n k = true) : ∃ i, i < S.2.2.1 (6, 0, 0) 0 ∧ S.2.1 (7, 0, 0) i = k := by
  unfold cknows sknows at h
  cases hf : mfind (S.2.1 (7, 0, 0)) k (S.2.2.1 (6, 0, 0) 0) with
  | none => rw [hf] at h; cases h
  | some j => exact ⟨j, mfind_lt hf⟩
theorem chas_of {S : CS} {k : Int64} (h : ∃ i, i < S.2.2.1 (6, 0, 0) 0 ∧ S.2.1 (7, 0, 0) i = k) : chas S k = true := by
  unfold chas shas
  cases hf : mfind (S.2.1 (7, 0, 0)) k (S.2.2.1 (6, 0, 0) 0) with
  | none =>
    obtain ⟨i, h1, h2⟩ := h
    exact absurd h2 (mfind_iff.mp hf i h1)
  | some j => rfl
theorem cadd_Mon (S : CS) (j p q : Nat) (am : Int32) (lo : Int64) (dl : Int32) (c0 : Nat) (mo : Int32) : Mon S (cadd S j p q am lo dl c0 mo) := by
  have s := cadd_sk S j p q am lo dl c0 mo
  refine mon_of (by unfold kC; rw [cadd_z _ _ _ _ _ _ _ _ _ _ (by simp)]; exact Nat.le_refl _) (fun c _ => ⟨?_, ?_, ?_, fun q' hq' => ⟨?_, ?_⟩⟩) ((s (6, 0, 0) (by decide)).2.2) ((s (7, 0, 0) (by decide)).2.1)
  · unfold kw
    rw [cadd_w, if_neg (by simp), if_neg (by simp)]
  · unfold kw
    rw [cadd_w, if_neg (by simp), if_neg (by simp)]
  · by_cases e : c = j
    · subst e
      unfold kn
      rw [cadd_n]
      exact Nat.le_succ _
    · unfold kn
      rw [cadd_z _ _ _ _ _ _ _ _ _ _ (by simp [e])]
      exact Nat.le_refl _
  · have ne : ¬ ((26, c, q') : RO) = (26, j, kn S j) := fun z => by
      injection z with _ z
      injection z with z1 z2
      subst z1
      omega
    unfold kp
    rw [cadd_i _ _ _ _ _ _ _ _ _ _ (by simp), if_neg ne, cst_i _ _ _ _ _ (by simp) (by simp)]
  · have ne : ¬ ((26, c, q') : RO) = (26, j, kn S j) := fun z => by
      injection z with _ z
      injection z with z1 z2
      subst z1
      omega
    rw [cadd_g, if_neg ne]
/-- the next promise of a payment -/
theorem Cpl.fwd {S : CS} {A : MS} {p i j v r : Nat} (C : Cpl S A) (hp : p < kP S) (h8 : S.1 (27, p, 0) 8 = 0) (hi : S.2.2.1 (27, p, 0) 10 = i) (hl : i < S.2.2.2 (27, p, 0) 0) (hj : S.1 (28, p, 0) i = nI j) (hj2 : j < kC S) (hv : S.1 (29, p, 0) i = nI v) (hr : r < 2) (hvr : v = kw S j r) (hok : cfok S p i j = true) (hL : kw S j 5 < 63) (c0 : Nat) (mo : Int32) : Cpl (cfw1 S p i j v c0 mo) (mI (mI (madd A j (kw S j 5) (kn S j) (nI r) (A.2.1 38 (5 * p + i)) (A.2.2 36 p) (A.2.1 39 (5 * p + i))) 40 (5 * p + i) (nI (kn S j))) 31 p (A.2.1 31 p + 1)) ∧ (cfw1 S p i j v c0 mo).1 (27, p, 0) 8 = 0 := by
  have y := C.2.2.2.2.1.2.2.1 p hp
  have hp16 := C.2.2.2.2.1.2.1
  have cc := C.2.2.1.2.2.1 _ hj2
  have hN := cc.2.1.2.2.2
  obtain ⟨⟨a1, a2, a3, a4, a5, a6, a7, a8⟩, ⟨b1, b2, b3, b4⟩, b5, b6, b7⟩ := y
  obtain ⟨c, v', z1, z2, z3, z4, z5, z6, z7, z8, z9, z10⟩ := b7 i hl
  have ec : c = j := by
    rw [hj, xn_inj (by have := C.2.2.1.2.1; omega) (by have := C.2.2.1.2.1; omega)] at z3
    exact z3.symm
  have hok' := Bool.and_eq_true_iff.mp hok
  have hcar := hok'.1
  rw [hv, hvr] at hcar
  obtain ⟨k1, k2, k3⟩ := (cc.car hr _).mp hcar
  have k2' := Int32.le_iff_toInt_le.mp k2
  unfold kbal at k2'
  have D := C.addp (j := j) (r := r) (p := v) (q := cpart S j v) (am := S.1 (30, p, 0) i) (dl := S.1 (31, p, 0) i) (lo := S.2.1 (27, p, 0) 0) hj2 hL k1 hr hvr (by
    unfold cpart
    have t := cc.1.two
    rw [hvr]
    rcases Nat.lt_or_ge r 1 with z | z
    · rw [show r = 0 by omega, if_pos rfl]
    · rw [show r = 1 by omega, if_neg (fun z => cc.1.2.2.2.2 ((xn_inj (by omega) (by omega)).mp z).symm)]) z8 ⟨fun z => by rw [if_pos z] at k2'; exact k2', fun z => by rw [if_neg (by omega)] at k2'; exact k2'⟩ k3 c0 mo
  rw [z7, a8, z9]
  generalize eS : cadd S j v (cpart S j v) (S.1 (30, p, 0) i) (S.2.1 (27, p, 0) 0) (S.1 (31, p, 0) i) c0 mo = S1 at D
  have s1 : sk (fun k => 21 ≤ k ∧ k ≤ 26) S S1 := by
    rw [← eS]
    exact cadd_sk _ _ _ _ _ _ _ _ _
  have hz1 : ∀ q : RO, q ≠ (24, j, 0) → S1.2.2.2 q = S.2.2.2 q := fun q h => by
    rw [← eS]
    exact cadd_z _ _ _ _ _ _ _ _ _ _ h
  have hn1 : kn S1 j = kn S j + 1 := by
    rw [← eS]
    exact cadd_n ..
  have hp4 : kp S1 j (kn S j) 4 = S.1 (31, p, 0) i := by
    unfold kp
    rw [← eS, cadd_i _ _ _ _ _ _ _ _ _ _ (by simp), if_pos rfl]
    rfl
  have hg4 : S1.2.1 (26, j, kn S j) 0 = S.2.1 (27, p, 0) 0 := by
    rw [← eS, cadd_g, if_pos rfl]
  have hk1 : ∀ k, k < 21 ∨ 26 < k → S1.1 (k, p, 0) = S.1 (k, p, 0) := fun k h => (s1 (k, p, 0) (by show ¬ (21 ≤ k ∧ k ≤ 26); omega)).1
  have hS : cfw1 S p i j v c0 mo = cfN (cfI S1 (32, p, 0) i (nI (kn S j))) (27, p, 0) 10 (i + 1) := by
    rw [← eS]
    rfl
  rw [hS]
  have f8 : (cfN (cfI S1 (32, p, 0) i (nI (kn S j))) (27, p, 0) 10 (i + 1)).1 (27, p, 0) = S.1 (27, p, 0) := by
    rw [cfN_f, cfI_f, if_neg (by simp), hk1 27 (by omega)]
  have ho : ∀ q : RO, q ≠ (27, p, 0) → q ≠ (32, p, 0) → (cfN (cfI S1 (32, p, 0) i (nI (kn S j))) (27, p, 0) 10 (i + 1)).1 q = S1.1 q ∧ (cfN (cfI S1 (32, p, 0) i (nI (kn S j))) (27, p, 0) 10 (i + 1)).2.1 q = S1.2.1 q ∧ (cfN (cfI S1 (32, p, 0) i (nI (kn S j))) (27, p, 0) 10 (i + 1)).2.2.1 q = S1.2.2.1 q := fun q h1 h2 => by
    rw [cfN_f, cfI_f, if_neg h2, cfN_g, cfI_g, cfN_w, if_neg h1, cfI_w]
    exact ⟨rfl, rfl, rfl⟩
  have hw : ∀ k, (cfN (cfI S1 (32, p, 0) i (nI (kn S j))) (27, p, 0) 10 (i + 1)).2.2.1 (27, p, 0) k = if k = 10 then i + 1 else S.2.2.1 (27, p, 0) k := fun k => by
    rw [cfN_n]
    by_cases e : k = 10
    · rw [if_pos ⟨rfl, e⟩, if_pos e]
    · rw [if_neg (fun z => e z.2), if_neg e, cfI_w, (s1 (27, p, 0) (by show ¬ (21 ≤ 27 ∧ 27 ≤ 26); omega)).2.2]
  have hg : (cfN (cfI S1 (32, p, 0) i (nI (kn S j))) (27, p, 0) 10 (i + 1)).2.1 (27, p, 0) = S.2.1 (27, p, 0) := by
    rw [cfN_g, cfI_g, (s1 (27, p, 0) (by show ¬ (21 ≤ 27 ∧ 27 ≤ 26); omega)).2.1]
  have h32 : ∀ k, (cfN (cfI S1 (32, p, 0) i (nI (kn S j))) (27, p, 0) 10 (i + 1)).1 (32, p, 0) k = if k = i then nI (kn S j) else S.1 (32, p, 0) k := fun k => by
    rw [cfN_f, cfI_i]
    by_cases e : k = i
    · rw [if_pos ⟨rfl, e⟩, if_pos e]
    · rw [if_neg (fun z => e z.2), if_neg e, hk1 32 (by omega)]
  refine ⟨?_, by rw [f8]; exact h8⟩
  have am := madd_ak A j (kw S j 5) (kn S j) (nI r) (S.1 (30, p, 0) i) (S.2.1 (27, p, 0) 0) (S.1 (31, p, 0) i)
  generalize madd A j (kw S j 5) (kn S j) (nI r) (S.1 (30, p, 0) i) (S.2.1 (27, p, 0) 0) (S.1 (31, p, 0) i) = A1 at D am
  have ha1 : ∀ k, 23 ≤ k → A1.2.1 k = A.2.1 k ∧ A1.2.2 k = A.2.2 k := fun k h => am.2 k (by omega)
  have hA : ∀ k q, (mI (mI A1 40 (5 * p + i) (nI (kn S j))) 31 p (A.2.1 31 p + 1)).2.1 k q = if k = 31 ∧ q = p then A.2.1 31 p + 1 else if k = 40 ∧ q = 5 * p + i then nI (kn S j) else A1.2.1 k q := fun k q => by rw [mI_i, mI_i]
  have hPS1 : kP S1 = kP S := by
    unfold kP
    rw [hz1 _ (by simp)]
  refine D.pmt (p := p) (fun q hq => ho q (hq 27 (by decide) (by decide)) (hq 32 (by decide) (by decide))) rfl (((ak.refl _ _ A1).I (by decide)).I (by decide)) (fun _ _ => rfl) (fun k q hq h1 h2 => ?_) (fun p' k q hp' h1 h2 h3 => ?_) (by rw [hPS1]; exact hp) ?_
  · rw [hA, if_neg (fun z => hq z.2), if_neg (by omega)]
  · rw [hA, if_neg (by omega), if_neg (by omega)]
  · unfold YY
    rw [f8, hg, (ho (28, p, 0) (by simp) (by simp)).1, (ho (29, p, 0) (by simp) (by simp)).1, (ho (30, p, 0) (by simp) (by simp)).1, (ho (31, p, 0) (by simp) (by simp)).1, (ho (6, 0, 0) (by simp) (by simp)).2.2, (ho (7, 0, 0) (by simp) (by simp)).2.1, hk1 28 (by omega), hk1 29 (by omega), hk1 30 (by omega), hk1 31 (by omega), hw 10, hw 11, hw 0, if_pos rfl, if_neg (by decide), if_neg (by decide), (s1 (6, 0, 0) (by decide)).2.2, (s1 (7, 0, 0) (by decide)).2.1]
    rw [show (cfN (cfI S1 (32, p, 0) i (nI (kn S j))) (27, p, 0) 10 (i + 1)).2.2.2 (27, p, 0) = S.2.2.2 (27, p, 0) from hz1 (27, p, 0) (by simp)]
    have hk : ∀ k q, k ≠ 31 → k ≠ 40 → 23 ≤ k → (mI (mI A1 40 (5 * p + i) (nI (kn S j))) 31 p (A.2.1 31 p + 1)).2.1 k q = A.2.1 k q := fun k q h1 h2 h3 => by
      rw [hA, if_neg (fun z => h1 z.1), if_neg (fun z => h2 z.1), (ha1 k h3).1]
    rw [hk 29 p (by decide) (by decide) (by decide), hk 30 p (by decide) (by decide) (by decide), hk 32 p (by decide) (by decide) (by decide), hk 33 p (by decide) (by decide) (by decide), hk 34 p (by decide) (by decide) (by decide), hk 35 p (by decide) (by decide) (by decide), hA 31 p, if_pos ⟨rfl, rfl⟩]
    refine ⟨⟨a1, a2, ?_, a4, a5, a6, a7, ?_⟩, ⟨b1, b2, hl, by omega⟩, Or.inl h8, b6, fun x hx => ?_⟩
    · rw [a3, hi]
      exact xn_succ _
    · show A1.2.2 36 p = _
      rw [(ha1 36 (by decide)).2]
      exact a8
    · obtain ⟨c', v', w1, w2, w3, w4, w5, w6, w7, w8, w9, w10⟩ := b7 x hx
      rw [hk 37 _ (by decide) (by decide) (by decide), hk 38 _ (by decide) (by decide) (by decide), hk 39 _ (by decide) (by decide) (by decide), hk 41 _ (by decide) (by decide) (by decide), hA 40, if_neg (by omega), h32 x]
      have M1 : Mon S S1 := by
        rw [← eS]
        exact cadd_Mon S j _ _ _ _ _ _ _
      have kwe : ∀ c x, kw (cfN (cfI S1 (32, p, 0) i (nI (kn S j))) (27, p, 0) 10 (i + 1)) c x = kw S1 c x := fun c x => by
        unfold kw
        rw [(ho (21, c, 0) (by simp) (by simp)).2.2]
      have kpe : ∀ c q x, kp (cfN (cfI S1 (32, p, 0) i (nI (kn S j))) (27, p, 0) 10 (i + 1)) c q x = kp S1 c q x := fun c q x => by
        unfold kp
        rw [(ho (26, c, q) (by simp) (by simp)).1]
      have kge : ∀ c q, (cfN (cfI S1 (32, p, 0) i (nI (kn S j))) (27, p, 0) 10 (i + 1)).2.1 (26, c, q) = S1.2.1 (26, c, q) := fun c q => (ho (26, c, q) (by simp) (by simp)).2.1
      obtain ⟨n1, n2, n3, n4⟩ := M1.2.1 c' w1
      refine ⟨c', v', Nat.lt_of_lt_of_le w1 M1.1, by rw [kwe, kwe, n1, n2]; exact w2, w3, w4, w5, w6, w7, w8, w9, fun hx' => ?_⟩
      by_cases e : x = i
      · have ec' : c' = j := by
          rw [e, hj, xn_inj (by have := C.2.2.1.2.1; omega) (by have := C.2.2.1.2.1; omega)] at w3
          exact w3.symm
        subst ec'
        refine ⟨kn S c', ?_, if_pos e, if_pos ⟨rfl, by rw [e]⟩, ?_, ?_⟩
        · show kn S c' < kn S1 c'
          omega
        · rw [kpe, hp4, e]
        · rw [kge, hg4]
      · obtain ⟨q, u1, u2, u3, u4, u5⟩ := w10 (by omega)
        obtain ⟨o1, o2⟩ := n4 q u1
        refine ⟨q, Nat.lt_of_lt_of_le u1 n3, by rw [if_neg e]; exact u2, ?_, by rw [kpe, o1]; exact u4, by rw [kge, o2]; exact u5⟩
        rw [if_neg (fun z => e (by omega)), (ha1 40 (by decide)).1]
        exact u3
