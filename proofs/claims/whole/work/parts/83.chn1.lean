/- Part 83: a channel's next state on both sides; a promise ends. -/
theorem i_add {x y : Int32} (h : -2147483648 ≤ x.toInt + y.toInt) (h' : x.toInt + y.toInt ≤ 2147483647) : (x + y).toInt = x.toInt + y.toInt := by
  rw [Int32.toInt_add]
  exact Int.bmod_eq_of_le (by omega) (by omega)
theorem i_sub {x y : Int32} (h : -2147483648 ≤ x.toInt - y.toInt) (h' : x.toInt - y.toInt ≤ 2147483647) : (x - y).toInt = x.toInt - y.toInt := by
  rw [Int32.toInt_sub]
  exact Int.bmod_eq_of_le (by omega) (by omega)
theorem i_neg {x : Int32} (h : -2147483648 < x.toInt) : (-x).toInt = -x.toInt := by
  have h' := Int32.toInt_lt x
  rw [Int32.toInt_neg]
  exact Int.bmod_eq_of_le (by omega) (by omega)
theorem i_inj {x y : Int32} (h : x.toInt = y.toInt) : x = y := Int32.toInt_inj.mp h
theorem nI_m1 {q : Nat} (h : q < 2 ^ 31) : nI q ≠ -1 := by
  intro z
  have := congrArg Int32.toInt z
  rw [xn_toInt h] at this
  have e : (-1 : Int32).toInt = -1 := by decide
  omega
theorem isIn0_n {a l : Nat} (ha : a < 2 ^ 31) (hl : l < 2 ^ 31) : isIn0 (nI a) (-1) (nI l) = decide (a ≤ l) := by
  unfold isIn0
  simp only [xn_le ha hl, true_or, and_true]
theorem isIn0_e {a e l : Nat} (ha : a < 2 ^ 31) (he : e < 2 ^ 31) (hl : l < 2 ^ 31) : isIn0 (nI a) (nI e) (nI l) = decide (a ≤ l ∧ l < e) := by
  unfold isIn0
  simp only [xn_le ha hl, xn_lt hl he, nI_m1 he, false_or]
section X83
variable (S : CS) (A : MS) (j L : Nat)
theorem mnext_i (side by0 : Int32) (set : Int64) {x : Nat} (i : Nat) (h : x ≠ 9) (h' : x ≠ 10) : (mnext A j L side by0 set).2.1 x i = A.2.1 x i := by
  unfold mnext
  simp only [mJ_i, mI_i]
  rw [if_neg (fun z => h' z.1), if_neg (fun z => h' z.1), if_neg (fun z => h z.1)]
theorem mnext_9 (side by0 : Int32) (set : Int64) (i : Nat) : (mnext A j L side by0 set).2.1 9 i = if i = j then nI (L + 1) else A.2.1 9 i := by
  unfold mnext
  simp only [mJ_i, mI_i]
  rw [if_neg (fun z => absurd z.1 (by decide)), if_neg (fun z => absurd z.1 (by decide))]
  simp
theorem mnext_10 (side by0 : Int32) (set : Int64) (l : Nat) {s : Nat} (hs : s < 2) : (mnext A j L side by0 set).2.1 10 (2 * (64 * j + l) + s) = if l = L + 1 then A.2.1 10 (2 * (64 * j + L) + s) + (if side = nI s then by0 else 0) else A.2.1 10 (2 * (64 * j + l) + s) := by
  unfold mnext
  simp only [mJ_i, mI_i]
  by_cases h : l = L + 1
  · subst h
    rw [if_pos rfl]
    rcases (by omega : s = 0 ∨ s = 1) with rfl | rfl
    · rw [if_neg (fun z => by have := z.2; omega), if_pos ⟨trivial, rfl⟩, if_neg (fun z => absurd z.1 (by decide))]
      rfl
    · rw [if_pos ⟨trivial, rfl⟩, if_neg (fun z => by have := z.2; omega), if_neg (fun z => absurd z.1 (by decide))]
      rfl
  · rw [if_neg (fun z => by have := z.2; omega), if_neg (fun z => by have := z.2; omega), if_neg (fun z => absurd z.1 (by decide)), if_neg h]
theorem mnext_j (side by0 : Int32) (set : Int64) (x i : Nat) : (mnext A j L side by0 set).2.2 x i = if x = 11 ∧ i = 64 * j + L + 1 then set else A.2.2 x i := by
  unfold mnext
  simp only [mJ_j, mI_j]
theorem mnext_f (side by0 : Int32) (set : Int64) : (mnext A j L side by0 set).1 = A.1 := rfl
theorem mnext_chM (side by0 : Int32) (set : Int64) {j' : Nat} (hj : j' ≠ j) (hL : L < 63) : chM A (mnext A j L side by0 set) j' := by
  unfold mnext
  simp only
  refine chM.J (chM.I (chM.I (chM.I (chM.refl A j') ?_) ?_) ?_) ?_
  all_goals
    refine Or.inr (Or.inr ?_)
    unfold chIx
    simp
    omega
theorem cst_i (n ch : Int32) (q : RO) (h : q ≠ (22, j, 0)) (h' : q ≠ (23, j, 0)) : (cst S j n ch).1 q = S.1 q := by
  unfold cst
  rw [cfN_f, cfI_f, if_neg h', cfI_f, if_neg h]
theorem cst_22 (n ch : Int32) (i : Nat) : (cst S j n ch).1 (22, j, 0) i = if i = kw S j 5 + 1 then S.1 (22, j, 0) (kw S j 5) + (if n = nI (kw S j 0) then ch else 0) else S.1 (22, j, 0) i := by
  unfold cst
  rw [cfN_f, cfI_i, cfI_i]
  simp
theorem cst_23 (n ch : Int32) (i : Nat) : (cst S j n ch).1 (23, j, 0) i = if i = kw S j 5 + 1 then S.1 (23, j, 0) (kw S j 5) + (if n = nI (kw S j 1) then ch else 0) else S.1 (23, j, 0) i := by
  unfold cst
  rw [cfN_f, cfI_i, cfI_i]
  simp
theorem cst_g (n ch : Int32) (q : RO) : (cst S j n ch).2.1 q = S.2.1 q := by
  unfold cst
  rw [cfN_g, cfI_g, cfI_g]
theorem cst_w (n ch : Int32) (q : RO) (k : Nat) : (cst S j n ch).2.2.1 q k = if q = (21, j, 0) ∧ k = 5 then kw S j 5 + 1 else S.2.2.1 q k := by
  unfold cst
  rw [cfN_n, cfI_w, cfI_w]
theorem cst_z (n ch : Int32) : (cst S j n ch).2.2.2 = S.2.2.2 := rfl
theorem cst_chS (n ch : Int32) {j' : Nat} (hj : j' ≠ j) : chS S (cst S j n ch) j' := by
  unfold cst
  exact chS.N (chS.I (chS.I (chS.refl S j') (Or.inr (Or.inr (fun z => hj z.symm)))) (Or.inr (Or.inr (fun z => hj z.symm)))) (Or.inr (Or.inr (fun z => hj z.symm)))
theorem cendp_i (k : Nat) (rc : Int32) (q : RO) (i : Nat) : (cendp S j k rc).1 q i = if q = (26, j, k) ∧ i = 6 then nI (kw S j 5 + 1) else (cst S j rc (kp S j k 2)).1 q i := by
  unfold cendp
  rw [cfI_i]
theorem cendp_g (k : Nat) (rc : Int32) (q : RO) : (cendp S j k rc).2.1 q = S.2.1 q := by
  unfold cendp
  rw [cfI_g, cst_g]
theorem cendp_w (k : Nat) (rc : Int32) (q : RO) (i : Nat) : (cendp S j k rc).2.2.1 q i = if q = (21, j, 0) ∧ i = 5 then kw S j 5 + 1 else S.2.2.1 q i := by
  unfold cendp
  rw [cfI_w, cst_w]
theorem cendp_z (k : Nat) (rc : Int32) : (cendp S j k rc).2.2.2 = S.2.2.2 := rfl
theorem cendp_chS (k : Nat) (rc : Int32) {j' : Nat} (hj : j' ≠ j) : chS S (cendp S j k rc) j' := chS.I (cst_chS S j _ _ hj) (Or.inr (Or.inr (fun z => hj z.symm)))
end X83
/-- a promise that is in the latest state goes on -/
theorem C6.top {S : CS} {A : MS} {j k : Nat} (c2 : C2 S A j) (c6 : C6 S A j) (hk : k < kn S j) (hin : pin S j (kw S j 5) k = true) : kp S j k 6 = -1 := by
  obtain ⟨-, -, -, -, -, a, ha, ea, z | ⟨e, h1, h2, h3⟩⟩ := c6 k hk
  · exact z
  · have := c2.2.1
    unfold pin at hin
    rw [ea, h3, isIn0_e (by omega) (by omega) (by omega)] at hin
    have := of_decide_eq_true hin
    omega
theorem C6.next {S : CS} {A : MS} {j k : Nat} (c2 : C2 S A j) (c6 : C6 S A j) (hk : k < kn S j) : isIn0 (kp S j k 5) (kp S j k 6) (nI (kw S j 5 + 1)) = pin S j (kw S j 5) k := by
  obtain ⟨-, -, -, -, -, a, ha, ea, z | ⟨e, h1, h2, h3⟩⟩ := c6 k hk
  all_goals
    have := c2.2.1
    unfold pin
  · rw [ea, z, isIn0_n (by omega) (by omega), isIn0_n (by omega) (by omega)]
    exact decide_eq_decide.mpr ⟨fun _ => ha, fun _ => by omega⟩
  · rw [ea, h3, isIn0_e (by omega) (by omega) (by omega), isIn0_e (by omega) (by omega) (by omega)]
    exact decide_eq_decide.mpr ⟨fun z => by omega, fun z => by omega⟩
theorem C9.top {S : CS} {A : MS} {j l k : Nat} (c6 : C6 S A j) (c9 : C9 S j) (hl : l ≤ kw S j 5) : 0 ≤ (S.1 (22, j, 0) l).toInt ∧ 0 ≤ (S.1 (23, j, 0) l).toInt ∧ 0 ≤ psum S j l ∧ (S.1 (22, j, 0) l).toInt + (S.1 (23, j, 0) l).toInt + psum S j l ≤ 12000000 ∧ (k < kn S j → pin S j l k = true → pam S j k ≤ psum S j l) := by
  obtain ⟨T, hT, hb, -⟩ := c9
  obtain ⟨h1, h2, h3⟩ := hb l hl
  have h0 : ∀ i, i < kn S j → pin S j l i = true → 0 ≤ pam S j i := fun i hi _ => by
    have := (c6 i hi).2.2.2.2.1
    omega
  exact ⟨h1, h2, sm_nonneg _ h0, by omega, fun hk hp => sm_le _ h0 hk hp⟩
theorem CC.endp {S : CS} {A : MS} {j k r : Nat} (c : CC S A j) (hk : k < kn S j) (hin : pin S j (kw S j 5) k = true) (hL : kw S j 5 < 63) (h0 : kf S j 6 = 0) (hr : r < 2) {by0 : Int32} (hby : by0 = kp S j k 2) {w : Nat} (hw : w = kw S j r) : CC (cendp S j k (nI w)) (mnext A j (kw S j 5) (nI r) by0 (mdel A j (kw S j 5) k)) j ∧ cnt (pin (cendp S j k (nI w)) j (kw (cendp S j k (nI w)) j 5)) (kn (cendp S j k (nI w)) j) ≤ cnt (pin S j (kw S j 5)) (kn S j) := by
  subst hby hw
  obtain ⟨c1, c2, c3, c4, c5, c6, c7, c8, c9⟩ := c
  have hg := c6.top c2 hk hin
  obtain ⟨-, a2, a3, a4, a5, -⟩ := c6 k hk
  -- the views
  have vf : ∀ i, (cendp S j k (nI (kw S j r))).1 (21, j, 0) i = S.1 (21, j, 0) i := fun i => by rw [cendp_i, cst_i _ _ _ _ _ (by simp) (by simp)]; simp
  have vw : ∀ i, i ≠ 5 → (cendp S j k (nI (kw S j r))).2.2.1 (21, j, 0) i = S.2.2.1 (21, j, 0) i := fun i hi => by rw [cendp_w]; simp [hi]
  have v5 : (cendp S j k (nI (kw S j r))).2.2.1 (21, j, 0) 5 = kw S j 5 + 1 := by rw [cendp_w]; simp
  have vp : ∀ q i, (cendp S j k (nI (kw S j r))).1 (26, j, q) i = if q = k ∧ i = 6 then nI (kw S j 5 + 1) else S.1 (26, j, q) i := fun q i => by rw [cendp_i, cst_i _ _ _ _ _ (by simp) (by simp)]; simp
  have vq : ∀ q i, (cendp S j k (nI (kw S j r))).2.2.1 (26, j, q) i = S.2.2.1 (26, j, q) i := fun q i => by rw [cendp_w]; simp
  have v1 : ∀ l, (cendp S j k (nI (kw S j r))).1 (22, j, 0) l = if l = kw S j 5 + 1 then S.1 (22, j, 0) (kw S j 5) + (if r = 0 then kp S j k 2 else 0) else S.1 (22, j, 0) l := fun l => by
    rw [cendp_i, cst_22]
    have e : (nI (kw S j r) = nI (kw S j 0)) = (r = 0) := by
      obtain ⟨-, -, e1, e2, e3⟩ := c1
      rcases (by omega : r = 0 ∨ r = 1) with rfl | rfl
      · simp
      · rw [xn_inj (by omega) (by omega)]
        simp
        omega
    simp [e]
  have v2 : ∀ l, (cendp S j k (nI (kw S j r))).1 (23, j, 0) l = if l = kw S j 5 + 1 then S.1 (23, j, 0) (kw S j 5) + (if r = 1 then kp S j k 2 else 0) else S.1 (23, j, 0) l := fun l => by
    rw [cendp_i, cst_23]
    have e : (nI (kw S j r) = nI (kw S j 1)) = (r = 1) := by
      obtain ⟨-, -, e1, e2, e3⟩ := c1
      rcases (by omega : r = 0 ∨ r = 1) with rfl | rfl
      · rw [xn_inj (by omega) (by omega)]
        simp
        omega
      · simp
    simp [e]
  have pold : ∀ l q, q < kn S j → l ≤ kw S j 5 → pin (cendp S j k (nI (kw S j r))) j l q = pin S j l q := fun l q hq hl => by
    unfold pin kp
    rw [vp, vp]
    by_cases e : q = k
    · subst e
      obtain ⟨-, -, -, -, -, a, ha, ea, -⟩ := c6 q hq
      have := c2.2.1
      have hg' : S.1 (26, j, q) 6 = -1 := hg
      have ea' : S.1 (26, j, q) 5 = nI a := ea
      rw [if_neg (by simp), if_pos ⟨rfl, rfl⟩, hg', ea', isIn0_n (by omega) (by omega), isIn0_e (by omega) (by omega) (by omega)]
      exact decide_eq_decide.mpr ⟨fun z => z.1, fun z => by omega⟩
    · rw [if_neg (fun z => e z.1), if_neg (fun z => e z.1)]
  have pnew : ∀ q, q < kn S j → pin (cendp S j k (nI (kw S j r))) j (kw S j 5 + 1) q = (pin S j (kw S j 5) q && !decide (q = k)) := fun q hq => by
    have hn := c6.next c2 hq
    unfold kp at hn
    rw [← hn]
    unfold pin kp
    rw [vp, vp]
    by_cases e : q = k
    · subst e
      obtain ⟨-, -, -, -, -, a, ha, ea, -⟩ := c6 q hq
      have := c2.2.1
      have ea' : S.1 (26, j, q) 5 = nI a := ea
      rw [if_neg (by simp), if_pos ⟨rfl, rfl⟩, ea', isIn0_e (by omega) (by omega) (by omega)]
      simp
    · rw [if_neg (fun z => e z.1), if_neg (fun z => e z.1)]
      simp [e]
  have vam : ∀ q, pam (cendp S j k (nI (kw S j r))) j q = pam S j q := fun q => by
    unfold pam kp
    rw [vp, if_neg (by simp)]
  have top := C9.top (l := kw S j 5) (k := k) c6 c9 (Nat.le_refl _)
  obtain ⟨t1, t2, t3, t4, t5⟩ := top
  have t5 := t5 hk hin
  have hn : (cendp S j k (nI (kw S j r))).2.2.2 (24, j, 0) 0 = kn S j := rfl
  refine ⟨⟨?_, ?_, ?_, ?_, ?_, ?_, ?_, ?_, ?_⟩, ?_⟩
  rotate_left 9
  · unfold kw kn
    rw [v5, hn]
    exact cnt_mono _ (fun i hi z => by
      rw [pnew i hi] at z
      exact (Bool.and_eq_true_iff.mp z).1)
  · unfold C1 kw
    rw [mnext_i _ _ _ _ _ _ _ (by decide) (by decide), mnext_i _ _ _ _ _ _ _ (by decide) (by decide), vw 0 (by decide), vw 1 (by decide)]
    exact c1
  · unfold C2
    rw [mnext_9, if_pos rfl, mnext_i _ _ _ _ _ _ _ (by decide) (by decide)]
    unfold kw kn
    rw [v5, hn]
    exact ⟨rfl, by omega, c2.2.2.1, by have := c2.2.2.2; omega⟩
  · unfold C3 kf
    rw [mnext_i _ _ _ _ _ _ _ (by decide) (by decide), mnext_i _ _ _ _ _ _ _ (by decide) (by decide), mnext_i _ _ _ _ _ _ _ (by decide) (by decide), mnext_i _ _ _ _ _ _ _ (by decide) (by decide), mnext_i _ _ _ _ _ _ _ (by decide) (by decide)]
    simp only [vf]
    exact c3
  · unfold C4 kf
    simp only [vf]
    have h9 := (c4.2.1 h0).1
    exact ⟨Or.inl h9, c4.2⟩
  · intro l hl
    unfold kw at hl
    rw [v5] at hl
    rw [mnext_10 _ _ _ _ _ _ _ (by decide), mnext_10 _ _ _ _ _ _ _ (by decide), v1, v2]
    by_cases e : l = kw S j 5 + 1
    · simp only [if_pos e]
      obtain ⟨z1, z2⟩ := c5 (kw S j 5) (Nat.le_refl _)
      rw [z1, z2]
      rcases (by omega : r = 0 ∨ r = 1) with rfl | rfl
      · exact ⟨rfl, rfl⟩
      · exact ⟨rfl, rfl⟩
    · simp only [if_neg e]
      exact c5 l (by unfold kw at *; omega)
  · intro q hq
    have hq' : q < kn S j := hq
    rw [mnext_i _ _ _ _ _ _ _ (by decide) (by decide), mnext_i _ _ _ _ _ _ _ (by decide) (by decide), mnext_i _ _ _ _ _ _ _ (by decide) (by decide), mnext_j, if_neg (fun z => absurd z.1 (by decide)), cendp_g, vam]
    unfold kq kw kp
    rw [vq, vq, vw 0 (by decide), vw 1 (by decide), v5, vp, vp, vp, vp]
    rw [if_neg (by simp), if_neg (by simp), if_neg (by simp)]
    obtain ⟨b1, b2, b3, b4, b5, a, b6, b7, b8⟩ := c6 q hq'
    refine ⟨b1, b2, b3, b4, b5, a, by omega, b7, ?_⟩
    by_cases e : q = k
    · rw [if_pos ⟨e, rfl⟩]
      exact Or.inr ⟨_, by omega, Nat.le_refl _, rfl⟩
    · rw [if_neg (fun z => e z.1)]
      rcases b8 with b8 | ⟨e, d1, d2, d3⟩
      · exact Or.inl b8
      · exact Or.inr ⟨e, d1, by omega, d3⟩
  · intro l hl q hq
    unfold kw at hl
    rw [v5] at hl
    rw [mnext_j]
    show _ = (decide (q < kn S j) && _)
    have hn63 := c2.2.2.2
    by_cases e : l = kw S j 5 + 1
    · subst e
      rw [if_pos ⟨rfl, by omega⟩]
      unfold mdel
      rw [gb_del _ (by omega) _ hq, c7 _ (Nat.le_refl _) q hq]
      by_cases hq' : q < kn S j
      · rw [pnew q hq', Bool.and_assoc]
      · simp [hq']
    · rw [if_neg (fun z => e (by omega)), c7 l (by omega) q hq]
      by_cases hq' : q < kn S j
      · rw [pold l q hq' (by omega)]
      · simp [hq']
  · unfold C8 kf kp
    rw [vf]
    have h9 := (c4.2.1 h0).1
    have h9' : S.1 (21, j, 0) 9 = -1 := h9
    refine ⟨fun _ q hq => ?_, fun q hq z => ?_⟩
    · rw [vp, if_neg (by simp)]
      exact c8.1 h9 q hq
    · rw [h9'] at z
      unfold kw at hq
      rw [v5] at hq
      exact absurd z.symm (nI_m1 (by omega))
  · obtain ⟨T, hT, hb, h1, h2, h3⟩ := c9
    refine ⟨T, hT, fun l hl => ?_, ?_, ?_, ?_⟩
    · unfold kw at hl
      rw [v5] at hl
      rw [v1, v2]
      by_cases e : l = kw S j 5 + 1
      · subst e
        rw [if_pos rfl, if_pos rfl]
        have hs : psum (cendp S j k (nI (kw S j r))) j (kw S j 5 + 1) = psum S j (kw S j 5) - pam S j k := by
          unfold psum
          show sm _ _ (kn S j) = _
          rw [← sm_del (p := pin S j (kw S j 5)) (f := pam S j) _ hk hin]
          exact sm_ext _ pnew (fun i _ _ => vam i)
        obtain ⟨h4, h5, h6⟩ := hb _ (Nat.le_refl _)
        rw [hs]
        unfold pam at t5 a5 ⊢
        rcases (by omega : r = 0 ∨ r = 1) with rfl | rfl
        · rw [if_pos rfl, if_neg (by decide), Int32.add_zero, i_add (by omega) (by omega)]
          exact ⟨by omega, h5, by omega⟩
        · rw [if_neg (by decide), if_pos rfl, Int32.add_zero, i_add (by omega) (by omega)]
          exact ⟨h4, by omega, by omega⟩
      · rw [if_neg e, if_neg e]
        have hs : psum (cendp S j k (nI (kw S j r))) j l = psum S j l := sm_ext _ (fun i hi => pold l i hi (by omega)) (fun i _ _ => vam i)
        rw [hs]
        exact hb l (by omega)
    · unfold kf
      rw [vf, vf]
      exact h1
    · unfold kf
      rw [vf]
      intro z
      have : (kf S j 6) = 1 := z
      rw [h0] at this
      exact absurd this (by decide)
    · unfold kf
      rw [vf, vf]
      exact h3
