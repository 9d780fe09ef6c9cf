/- Part 89: class and model answer alike, and stay side by side: the small operations. -/
abbrev ck (x : Int32) : Nat := x.toNatClampNeg
def cd (cl : List Nat) : Option Nat → Int32
  | none => 0
  | some ci => lco cl ci
theorem ck_of {k : Int32} (h : 0 ≤ k.toInt) (hl : k.toInt < 2147483647) : k = nI (ck k) ∧ ((ck k : Nat) : Int) = k.toInt := by
  obtain ⟨j, hj, e⟩ := xn_of (v := k) (n := 2147483647) h hl (by decide)
  subst e
  unfold ck
  rw [xn_clamp (by omega), xn_toInt (by omega)]
  exact ⟨rfl, rfl⟩
theorem le_0 {k : Int32} : 0 ≤ k ↔ 0 ≤ k.toInt := Int32.le_iff_toInt_le
theorem lt_n {k : Int32} {n : Nat} (hn : n < 2 ^ 31) : k < nI n ↔ k.toInt < (n : Int) := by
  rw [Int32.lt_iff_toInt_lt, xn_toInt hn]
theorem le_n {k : Int32} {n : Nat} (hn : n < 2 ^ 31) : k ≤ nI n ↔ k.toInt ≤ (n : Int) := by
  rw [Int32.le_iff_toInt_le, xn_toInt hn]
theorem inr0_of {k : Int32} {n : Nat} (hn : n < 2 ^ 31) (h : inr0 k n = true) : k = nI (ck k) ∧ ck k < n := by
  unfold inr0 at h
  obtain ⟨h1, h2⟩ := of_decide_eq_true h
  rw [le_0] at h1
  rw [lt_n hn] at h2
  obtain ⟨e1, e2⟩ := ck_of h1 (by omega)
  exact ⟨e1, by omega⟩
theorem inr0_n {q n : Nat} (hq : q < 2 ^ 31) (hn : n < 2 ^ 31) : inr0 (nI q) n = decide (q < n) := by
  unfold inr0
  have : (0 : Int32) ≤ nI q := by
    rw [le_0, xn_toInt hq]
    omega
  simp only [this, true_and, xn_lt hq hn]
theorem nd_of {v : Int32} (h : nd v = true) : v = nI (ck v) ∧ ck v < 6 := by
  unfold nd at h
  obtain ⟨h1, h2⟩ := of_decide_eq_true h
  rw [le_0] at h1
  have h3 : v.toInt ≤ 5 := Int32.le_iff_toInt_le.mp h2
  obtain ⟨e1, e2⟩ := ck_of h1 (by omega)
  exact ⟨e1, by omega⟩
/-- 'at most n - 1' is 'less than n' -/
theorem le_pred {k : Int32} {n : Nat} (hn : n < 2 ^ 31) : k ≤ nI n - 1 ↔ k < nI n := by
  rw [Int32.le_iff_toInt_le, lt_n hn, i_sub, xn_toInt hn]
  · show k.toInt ≤ (n : Int) - 1 ↔ _
    omega
  · rw [xn_toInt hn]
    show -2147483648 ≤ (n : Int) - 1
    omega
  · rw [xn_toInt hn]
    show (n : Int) - 1 ≤ 2147483647
    omega
theorem isc_eq {S : CS} {A : MS} (x : XC1 S A) (c : Int32) : isc A c = cAt S c := by
  unfold isc cAt inr0
  rw [x.1]
  have := x.2.1
  exact decide_eq_decide.mpr (by rw [le_pred (by omega)])
theorem isp_eq {S : CS} {A : MS} (x : XP S A) (c : Int32) : isp A c = pAt S c := by
  unfold isp pAt inr0
  rw [x.1]
  have := x.2.1
  exact decide_eq_decide.mpr (by rw [le_pred (by omega)])
theorem XC1.at {S : CS} {A : MS} (x : XC1 S A) {c : Int32} (h : cAt S c = true) : c = nI (ck c) ∧ ck c < kC S := inr0_of (by have := x.2.1; omega) h
theorem XP.at {S : CS} {A : MS} (x : XP S A) {c : Int32} (h : pAt S c = true) : c = nI (ck c) ∧ ck c < kP S := inr0_of (by have := x.2.1; omega) h
theorem XC1.all {S S' : CS} {A A' : MS} (x : XC1 S A) (hC : kC S' = kC S) (h7 : A'.1 7 = A.1 7) (hS : ∀ j, chS S S' j) (hM : ∀ j, chM A A' j) : XC1 S' A' := by
  unfold XC1
  rw [hC, h7]
  exact ⟨x.1, x.2.1, fun j hj => (x.2.2.1 j hj).fr (hS j) (hM j), fun j h1 h2 => (x.2.2.2 j h1 h2).frM (hM j)⟩
theorem XC1.one {S S' : CS} {A A' : MS} {j0 : Nat} (x : XC1 S A) (hC : kC S' = kC S) (h7 : A'.1 7 = A.1 7) (h0 : j0 < kC S) (c : CC S' A' j0) (hS : ∀ j, j ≠ j0 → chS S S' j) (hM : ∀ j, j ≠ j0 → chM A A' j) : XC1 S' A' := by
  unfold XC1
  rw [hC, h7]
  refine ⟨x.1, x.2.1, fun j hj => ?_, fun j h1 h2 => (x.2.2.2 j h1 h2).frM (hM j (by omega))⟩
  by_cases e : j = j0
  · subst e
    exact c
  · exact (x.2.2.1 j hj).fr (hS j e) (hM j e)
theorem chS.cnt {S S' : CS} {j : Nat} (h : chS S S' j) : cnt (pin S' j (kw S' j 5)) (kn S' j) = cnt (pin S j (kw S j 5)) (kn S j) := by
  have e1 : kw S' j 5 = kw S j 5 := by
    unfold kw
    rw [(h.1 (21, j, 0) (by show 21 ≤ 21; omega) (by show 21 ≤ 26; omega) rfl).2.2]
  have e2 : kn S' j = kn S j := h.2
  rw [e1, e2]
  refine cnt_ext _ (fun i _ => ?_)
  unfold pin kp
  rw [(h.1 (26, j, i) (by show 21 ≤ 26; omega) (by show 26 ≤ 26; omega) rfl).1]
theorem XB.all {S S' : CS} (x : XB S) (hC : kC S' = kC S) (hS : ∀ j, chS S S' j) : XB S' := fun j hj => by
  rw [(hS j).cnt]
  exact x j (by omega)
theorem XB.one {S S' : CS} {j0 : Nat} (x : XB S) (hC : kC S' = kC S) (h : cnt (pin S' j0 (kw S' j0 5)) (kn S' j0) ≤ 6) (hS : ∀ j, j ≠ j0 → chS S S' j) : XB S' := fun j hj => by
  by_cases e : j = j0
  · subst e
    exact h
  · rw [(hS j e).cnt]
    exact x j (by omega)
/-- a change outside the channels, in both -/
theorem sk_chS {P : Nat → Prop} {S S' : CS} (h : sk P S S') (hP : ∀ k, 21 ≤ k → k ≤ 26 → ¬ P k) (hz : ∀ j, S'.2.2.2 (24, j, 0) 0 = S.2.2.2 (24, j, 0) 0) (j : Nat) : chS S S' j := ⟨fun r h1 h2 _ => h r (hP _ h1 h2), hz j⟩
theorem ak_chM {F K : Nat → Prop} {A A' : MS} (h : ak F K A A') (hK : ∀ k, 6 ≤ k → k ≤ 22 → ¬ K k) (j : Nat) : chM A A' j := fun k i h1 h2 _ => by
  rw [(h.2 k (hK k h1 h2)).1, (h.2 k (hK k h1 h2)).2]
  exact ⟨rfl, rfl⟩
theorem mon_of {S S' : CS} (hC : kC S ≤ kC S') (hw : ∀ c, c < kC S → kw S' c 0 = kw S c 0 ∧ kw S' c 1 = kw S c 1 ∧ kn S c ≤ kn S' c ∧ ∀ q, q < kn S c → kp S' c q 4 = kp S c q 4 ∧ S'.2.1 (26, c, q) 0 = S.2.1 (26, c, q) 0) (h6 : S'.2.2.1 (6, 0, 0) = S.2.2.1 (6, 0, 0)) (h7 : S'.2.1 (7, 0, 0) = S.2.1 (7, 0, 0)) : Mon S S' := by
  refine ⟨hC, hw, fun x hx => ?_⟩
  rw [h6, h7]
  exact hx
theorem mon_sk {P : Nat → Prop} {S S' : CS} (h : sk P S S') (hP : ∀ k, k = 6 ∨ k = 7 ∨ k = 21 ∨ k = 26 → ¬ P k) (hC : kC S ≤ kC S') (hn : ∀ c, kn S c ≤ kn S' c) : Mon S S' := by
  refine mon_of hC (fun c _ => ⟨?_, ?_, hn c, fun q _ => ⟨?_, ?_⟩⟩) (h (6, 0, 0) (hP 6 (by decide))).2.2 (h (7, 0, 0) (hP 7 (by decide))).2.1
  · unfold kw
    rw [(h (21, c, 0) (hP 21 (by decide))).2.2]
  · unfold kw
    rw [(h (21, c, 0) (hP 21 (by decide))).2.2]
  · unfold kp
    rw [(h (26, c, q) (hP 26 (by decide))).1]
  · rw [(h (26, c, q) (hP 26 (by decide))).2.1]
theorem Cpl.F0 {S : CS} {A : MS} (C : Cpl S A) (x : Int32) : Cpl S (mF A 0 x) := by
  obtain ⟨x1, x2, x3, x4, x5, x6, x7⟩ := C
  have h : ak (fun j => j = 0) (fun _ => False) A (mF A 0 x) := (ak.refl _ _ A).F rfl
  have s : sk (fun _ => False) S S := sk.refl _ S
  exact ⟨x1.fr s h (fun _ _ => id) (by decide) (fun _ _ _ => id), x2.fr s h ⟨id, id, id⟩ (by decide) ⟨id, id⟩, x3.all rfl rfl (chS.refl S) (fun j => ak_chM h (fun _ _ _ => id) j), x4, x5.fr (Mon.refl S) s rfl (fun _ => rfl) h (fun _ _ _ => id) (by decide) (fun _ _ _ => id), x6.fr s h (fun _ _ _ => id) ⟨by decide, by decide⟩ id, x7⟩
theorem tNd_cd (n : Int32) : tNd n = cd [8] (eNd n) := by
  unfold tNd eNd
  split <;> rfl
theorem p_fees {S : CS} {A : MS} {n b q e : Int32} (C : Cpl S A) : tFees n b q e = cd [8, 9] (eFees n b q e) ∧ (eFees n b q e = none → Cpl (cfI (cfI (cfI S (2, 0, 0) (ck n) b) (3, 0, 0) (ck n) q) (4, 0, 0) (ck n) e) (mI (mI (mI (mF A 0 0) 2 (ck n) b) 3 (ck n) q) 4 (ck n) e)) := by
  constructor
  · unfold tFees eFees
    split
    · split <;> rfl
    · rfl
  · intro h
    unfold eFees at h
    by_cases h1 : nd n = true
    · rw [if_pos h1] at h
      by_cases h2 : (0 ≤ b ∧ b ≤ 10000) ∧ (0 ≤ q ∧ q ≤ 1000000) ∧ (1 ≤ e ∧ e ≤ 100)
      · obtain ⟨x1, x2, x3, x4, x5, x6, x7⟩ := C.F0 0
        have s : sk (fun k => 2 ≤ k ∧ k ≤ 4) S (cfI (cfI (cfI S (2, 0, 0) (ck n) b) (3, 0, 0) (ck n) q) (4, 0, 0) (ck n) e) := (((sk.refl _ S).I (by decide)).I (by decide)).I (by decide)
        have a : ak (fun _ => False) (fun k => 2 ≤ k ∧ k ≤ 4) (mF A 0 0) (mI (mI (mI (mF A 0 0) 2 (ck n) b) 3 (ck n) q) 4 (ck n) e) := (((ak.refl _ _ (mF A 0 0)).I (by decide)).I (by decide)).I (by decide)
        refine ⟨?_, x2.fr s a (by decide) id (by decide), x3.all rfl rfl (fun j => sk_chS s (fun k h1 h2 => by omega) (fun _ => rfl) j) (fun j => ak_chM a (fun k h1 h2 => by omega) j), ?_, x5.fr (mon_sk s (fun k h => by omega) (Nat.le_refl _) (fun _ => Nat.le_refl _)) s rfl (fun _ => rfl) a (fun k h1 h2 => by omega) id (fun k h1 h2 => by omega), x6.fr s a (fun k h1 h2 => by omega) ⟨id, id⟩ (by decide), x7.all rfl (fun j => sk_chS s (fun k h1 h2 => by omega) (fun _ => rfl) j)⟩
        · obtain ⟨y0, y1, y2, y3, y4, y5, y6⟩ := x1
          refine ⟨?_, ?_, ?_, ?_, ?_, ?_, ?_⟩
          · rw [(s (0, 0, 0) (by decide)).1]
            exact y0
          · rw [(s (1, 0, 0) (by decide)).1, (a.2 1 (by decide)).1]
            exact y1
          · funext i
            rw [cfI_i, cfI_i, cfI_i, mI_i, mI_i, mI_i, y2]
            simp
          · funext i
            rw [cfI_i, cfI_i, cfI_i, mI_i, mI_i, mI_i, y3]
            simp
          · funext i
            rw [cfI_i, cfI_i, cfI_i, mI_i, mI_i, mI_i, y4]
            simp
          · rw [(s (5, 0, 0) (by decide)).1, (a.2 5 (by decide)).1]
            exact y5
          · intro p hp
            have h6 := y6 p hp
            have z1 : 0 ≤ b.toInt := Int32.le_iff_toInt_le.mp h2.1.1
            have z2 : b.toInt ≤ 10000 := Int32.le_iff_toInt_le.mp h2.1.2
            have z3 : 0 ≤ q.toInt := Int32.le_iff_toInt_le.mp h2.2.1.1
            have z4 : q.toInt ≤ 1000000 := Int32.le_iff_toInt_le.mp h2.2.1.2
            rw [mI_i, mI_i, mI_i, mI_i, mI_i, mI_i]
            by_cases e : p = ck n
            · simp only [e]
              simp
              exact ⟨z1, z2, z3, z4⟩
            · simp only [e]
              simp
              exact h6
        · exact x4.fr ((s (1, 0, 0) (by decide)).1) rfl (fun j _ => by unfold kf; rw [(s (21, j, 0) (by show ¬ (2 ≤ 21 ∧ 21 ≤ 4); omega)).1])
      · rw [if_neg h2] at h
        cases h
    · rw [if_neg h1] at h
      cases h
theorem p_watch {S : CS} {A : MS} {n x : Int32} (C : Cpl S A) : Cpl (cfI S (5, 0, 0) (ck n) x) (mI (mF A 0 0) 5 (ck n) x) := by
  obtain ⟨x1, x2, x3, x4, x5, x6, x7⟩ := C.F0 0
  have s : sk (fun k => k = 5) S (cfI S (5, 0, 0) (ck n) x) := sk.I (P := fun k => k = 5) (sk.refl _ S) rfl
  have a : ak (fun _ => False) (fun k => k = 5) (mF A 0 0) (mI (mF A 0 0) 5 (ck n) x) := ak.I (K := fun k => k = 5) (ak.refl _ _ (mF A 0 0)) rfl
  refine ⟨?_, x2.fr s a (by decide) id (by decide), x3.all rfl rfl (fun j => sk_chS s (fun k h1 h2 => by omega) (fun _ => rfl) j) (fun j => ak_chM a (fun k h1 h2 => by omega) j), ?_, x5.fr (mon_sk s (fun k h => by omega) (Nat.le_refl _) (fun _ => Nat.le_refl _)) s rfl (fun _ => rfl) a (fun k h1 h2 => by omega) id (fun k h1 h2 => by omega), x6.fr s a (fun k h1 h2 => by omega) ⟨id, id⟩ (by decide), x7.all rfl (fun j => sk_chS s (fun k h1 h2 => by omega) (fun _ => rfl) j)⟩
  · obtain ⟨y0, y1, y2, y3, y4, y5, y6⟩ := x1
    refine ⟨?_, ?_, ?_, ?_, ?_, ?_, ?_⟩
    · rw [(s (0, 0, 0) (by decide)).1]
      exact y0
    · rw [(s (1, 0, 0) (by decide)).1, (a.2 1 (by decide)).1]
      exact y1
    · rw [(s (2, 0, 0) (by decide)).1, (a.2 2 (by decide)).1]
      exact y2
    · rw [(s (3, 0, 0) (by decide)).1, (a.2 3 (by decide)).1]
      exact y3
    · rw [(s (4, 0, 0) (by decide)).1, (a.2 4 (by decide)).1]
      exact y4
    · funext i
      rw [cfI_i, mI_i, y5]
      simp
    · rw [(a.2 2 (by decide)).1, (a.2 3 (by decide)).1]
      exact y6
  · exact x4.fr ((s (1, 0, 0) (by decide)).1) rfl (fun j _ => by unfold kf; rw [(s (21, j, 0) (by show ¬ (21 = 5); omega)).1])
/-- somebody learns a secret -/
theorem Cpl.learn {S : CS} {A : MS} (C : Cpl S A) {k : Int64} (w : Int32) (hh : chas S k = true) : Cpl (clearn S k w) (mlearn A (S.2.2.1 (6, 0, 0) 0) k w) := by
  obtain ⟨x1, x2, x3, x4, x5, x6, x7⟩ := C
  have s := clearn_sk S k w
  have a := mlearn_ak A (S.2.2.1 (6, 0, 0) 0) k w
  have z := clearn_z S k w
  exact ⟨x1.fr s a (fun k h => by omega) (by decide) (fun k h1 h2 => by omega), x2.learn w hh, x3.all (by unfold kC; rw [z]) (a.1 7 (by decide)) (clearn_chS S k w) (mlearn_chM A _ k w), x4.fr ((s (1, 0, 0) (by decide)).1) (by unfold kC; rw [z]) (fun j _ => by unfold kf; rw [(s (21, j, 0) (by show ¬ (6 ≤ 21 ∧ 21 ≤ 8); omega)).1]), x5.fr (clearn_Mon S k w) s (by rw [z]) (fun p => by rw [z]) a (fun k h1 h2 => by omega) (by decide) (fun k h1 h2 => by omega), x6.fr s a (fun k h1 h2 => by omega) ⟨by decide, by decide⟩ (by decide), x7.all (by unfold kC; rw [z]) (clearn_chS S k w)⟩
theorem p_tell {S : CS} {A : MS} {n : Int32} {s : Int64} (C : Cpl S A) : tTell A (S.2.2.1 (6, 0, 0) 0) n s = cd [8, 10] (eTell S n s) ∧ (eTell S n s = none → Cpl (clearn S (lk s) ((1 : Int32) <<< (n &&& 31))) (mlearn (mF A 0 0) (S.2.2.1 (6, 0, 0) 0) (lk s) ((1 : Int32) <<< (n &&& 31)))) := by
  have hh := C.2.1.has (lk s)
  constructor
  · unfold tTell eTell
    rw [hh]
    split
    · split <;> rfl
    · rfl
  · intro h
    unfold eTell at h
    by_cases h1 : nd n = true
    · rw [if_pos h1] at h
      by_cases h2 : chas S (lk s) = true
      · exact (C.F0 0).learn _ h2
      · rw [if_neg h2] at h
        cases h
    · rw [if_neg h1] at h
      cases h
theorem p_chan {S : CS} {A : MS} {c w : Int32} (C : Cpl S A) : tChan A c w = cd [8, 9] (eChan S c w 5) ∧ (eChan S c w 5 = none → rChan A (ck c) w = rChanC S (ck c) w) := by
  have he := isc_eq C.2.2.1 c
  constructor
  · unfold tChan eChan
    rw [he]
    show (if cAt S c = true then (if 0 ≤ w ∧ w ≤ 5 then (0 : Int32) else 2) else 1) = cd [8, 9] (if cAt S c = true then (if 0 ≤ w ∧ w ≤ 5 then none else some 9) else some 8)
    split
    · split <;> rfl
    · rfl
  · intro h
    unfold eChan at h
    by_cases h1 : cAt S c = true
    · obtain ⟨-, h2⟩ := C.2.2.1.at h1
      obtain ⟨c1, c2, c3, -⟩ := C.2.2.1.2.2.1 _ h2
      unfold rChan rChanC
      rw [c3.1, c2.1, c3.2.2.1, c3.2.2.2.1, c3.2.1, c2.2.2.1]
    · rw [if_neg h1] at h
      cases h
theorem p_payt {S : CS} {A : MS} {p w : Int32} (C : Cpl S A) : tPayt A p w = cd [8, 9] (ePayt S p w) ∧ (ePayt S p w = none → rPayt A (ck p) w = rPaytC S (ck p) w) := by
  have he := isp_eq C.2.2.2.2.1 p
  constructor
  · unfold tPayt ePayt
    rw [he]
    split
    · split <;> rfl
    · rfl
  · intro h
    unfold ePayt at h
    by_cases h1 : pAt S p = true
    · obtain ⟨-, h2⟩ := C.2.2.2.2.1.at h1
      obtain ⟨⟨a1, a2, a3, a4, a5, -⟩, -⟩ := C.2.2.2.2.1.2.2.1 _ h2
      unfold rPayt rPaytC
      rw [a1, a2, a3, a5]
    · rw [if_neg h1] at h
      cases h
