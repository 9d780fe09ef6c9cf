/- Part 82: class and model side by side: when they stand for the same net. -/
theorem mI_i (A : MS) (k i : Nat) (x : Int32) (a b : Nat) : (mI A k i x).2.1 a b = if a = k ∧ b = i then x else A.2.1 a b := by
  unfold mI
  simp only
  by_cases h : a = k
  · subst h
    simp [upd]
  · simp [h]
theorem mJ_j (A : MS) (k i : Nat) (x : Int64) (a b : Nat) : (mJ A k i x).2.2 a b = if a = k ∧ b = i then x else A.2.2 a b := by
  unfold mJ
  simp only
  by_cases h : a = k
  · subst h
    simp [vp_updL]
  · simp [h]
theorem mF_f (A : MS) (j : Nat) (x : Int32) (a : Nat) : (mF A j x).1 a = if a = j then x else A.1 a := rfl
theorem mI_f (A : MS) (k i : Nat) (x : Int32) : (mI A k i x).1 = A.1 := rfl
theorem mI_j (A : MS) (k i : Nat) (x : Int32) : (mI A k i x).2.2 = A.2.2 := rfl
theorem mJ_f (A : MS) (k i : Nat) (x : Int64) : (mJ A k i x).1 = A.1 := rfl
theorem mJ_i (A : MS) (k i : Nat) (x : Int64) : (mJ A k i x).2.1 = A.2.1 := rfl
theorem mF_i (A : MS) (j : Nat) (x : Int32) : (mF A j x).2.1 = A.2.1 := rfl
theorem mF_j (A : MS) (j : Nat) (x : Int32) : (mF A j x).2.2 = A.2.2 := rfl
theorem cfI_i (S : CS) (r : RO) (i : Nat) (x : Int32) (q : RO) (k : Nat) : (cfI S r i x).1 q k = if q = r ∧ k = i then x else S.1 q k := by
  unfold cfI
  rw [cset_f]
  by_cases h : q = r
  · subst h
    simp [upd]
  · simp [h]
theorem cfN_n (S : CS) (r : RO) (i : Nat) (x : Nat) (q : RO) (k : Nat) : (cfN S r i x).2.2.1 q k = if q = r ∧ k = i then x else S.2.2.1 q k := by
  unfold cfN
  rw [cset_w]
  by_cases h : q = r
  · subst h
    simp
  · simp [h]
theorem cfJ_f (S : CS) (r : RO) (i : Nat) (x : Int64) (q : RO) : (cfJ S r i x).1 q = S.1 q := by
  unfold cfJ
  rw [cset_f]
  by_cases h : q = r
  · rw [if_pos h, h]
  · rw [if_neg h]
theorem cfJ_w (S : CS) (r : RO) (i : Nat) (x : Int64) (q : RO) : (cfJ S r i x).2.2.1 q = S.2.2.1 q := by
  unfold cfJ
  rw [cset_w]
  by_cases h : q = r
  · rw [if_pos h, h]
  · rw [if_neg h]
theorem cfJ_j (S : CS) (r : RO) (i : Nat) (x : Int64) (q : RO) (k : Nat) : (cfJ S r i x).2.1 q k = if q = r ∧ k = i then x else S.2.1 q k := by
  unfold cfJ
  rw [cset_g]
  by_cases h : q = r
  · subst h
    simp [vp_updL]
  · simp [h]
theorem cfJ_z (S : CS) (r : RO) (i : Nat) (x : Int64) : (cfJ S r i x).2.2.2 = S.2.2.2 := rfl
/-- a channel's ints, its small numbers, how many promises it made; a promise's ints and small numbers -/
abbrev kf (S : CS) (j i : Nat) : Int32 := S.1 (21, j, 0) i
abbrev kw (S : CS) (j i : Nat) : Nat := S.2.2.1 (21, j, 0) i
abbrev kn (S : CS) (j : Nat) : Nat := S.2.2.2 (24, j, 0) 0
abbrev kp (S : CS) (j k i : Nat) : Int32 := S.1 (26, j, k) i
abbrev kq (S : CS) (j k i : Nat) : Nat := S.2.2.1 (26, j, k) i
abbrev kC (S : CS) : Nat := S.2.2.2 (9, 0, 0) 0
abbrev kP (S : CS) : Nat := S.2.2.2 (10, 0, 0) 0
/-- promise k of channel j is in state l; is left of what was published -/
def pin (S : CS) (j l k : Nat) : Bool := isIn0 (kp S j k 5) (kp S j k 6) (nI l)
def plf (S : CS) (j q k : Nat) : Bool := pin S j q k && !bZ (kp S j k 7)
def pam (S : CS) (j k : Nat) : Int := (kp S j k 2).toInt
def psum (S : CS) (j l : Nat) : Int := sm (pin S j l) (pam S j) (kn S j)
def lsum (S : CS) (j q : Nat) : Int := sm (plf S j q) (pam S j) (kn S j)
def C1 (S : CS) (A : MS) (j : Nat) : Prop := A.2.1 6 j = nI (kw S j 0) ∧ A.2.1 7 j = nI (kw S j 1) ∧ kw S j 0 < 6 ∧ kw S j 1 < 6 ∧ kw S j 0 ≠ kw S j 1
def C2 (S : CS) (A : MS) (j : Nat) : Prop := A.2.1 9 j = nI (kw S j 5) ∧ kw S j 5 < 64 ∧ A.2.1 13 j = nI (kn S j) ∧ kn S j ≤ kw S j 5
def C3 (S : CS) (A : MS) (j : Nat) : Prop := A.2.1 8 j = kf S j 6 ∧ A.2.1 12 j = kf S j 7 ∧ A.2.1 18 j = kf S j 9 ∧ A.2.1 20 j = kf S j 10 ∧ A.2.1 22 j = kf S j 11
def C4 (S : CS) (A : MS) (j : Nat) : Prop := (kf S j 9 = -1 ∨ (∃ q, q ≤ kw S j 5 ∧ kf S j 9 = nI q) ∧ A.2.1 19 j = kf S j 8 ∧ (kf S j 8 = nI (kw S j 0) ∨ kf S j 8 = nI (kw S j 1))) ∧ (kf S j 6 = 0 → kf S j 9 = -1 ∧ kf S j 11 = 0) ∧ (kf S j 6 = 1 → kf S j 9 ≠ -1) ∧ (kf S j 6 = 0 ∨ kf S j 6 = 1 ∨ kf S j 6 = 2) ∧ (kf S j 11 = 0 ∨ kf S j 11 = 1)
def C5 (S : CS) (A : MS) (j : Nat) : Prop := ∀ l, l ≤ kw S j 5 → A.2.1 10 (2 * (64 * j + l) + 0) = S.1 (22, j, 0) l ∧ A.2.1 10 (2 * (64 * j + l) + 1) = S.1 (23, j, 0) l
def C6 (S : CS) (A : MS) (j : Nat) : Prop := ∀ k, k < kn S j → ((A.2.1 14 (64 * j + k) = 0 ∧ kq S j k 0 = kw S j 0 ∧ kq S j k 1 = kw S j 1) ∨ (A.2.1 14 (64 * j + k) = 1 ∧ kq S j k 0 = kw S j 1 ∧ kq S j k 1 = kw S j 0)) ∧ A.2.1 15 (64 * j + k) = kp S j k 2 ∧ A.2.2 16 (64 * j + k) = S.2.1 (26, j, k) 0 ∧ A.2.1 17 (64 * j + k) = kp S j k 4 ∧ 1 ≤ pam S j k ∧ ∃ a, a ≤ kw S j 5 ∧ kp S j k 5 = nI a ∧ (kp S j k 6 = -1 ∨ ∃ e, a < e ∧ e ≤ kw S j 5 ∧ kp S j k 6 = nI e)
def C7 (S : CS) (A : MS) (j : Nat) : Prop := ∀ l, l ≤ kw S j 5 → ∀ k, k < 64 → gb (A.2.2 11 (64 * j + l)) k = (decide (k < kn S j) && pin S j l k)
def C8 (S : CS) (A : MS) (j : Nat) : Prop := (kf S j 9 = -1 → ∀ k, k < kn S j → bZ (kp S j k 7) = false) ∧ ∀ q, q ≤ kw S j 5 → kf S j 9 = nI q → ∀ k, k < 64 → gb (A.2.2 21 j) k = (decide (k < kn S j) && plf S j q k)
def C9 (S : CS) (j : Nat) : Prop := ∃ T : Int, T ≤ 12000000 ∧ (∀ l, l ≤ kw S j 5 → 0 ≤ (S.1 (22, j, 0) l).toInt ∧ 0 ≤ (S.1 (23, j, 0) l).toInt ∧ (S.1 (22, j, 0) l).toInt + (S.1 (23, j, 0) l).toInt + psum S j l = T) ∧ (kf S j 6 = 0 → (kf S j 7).toInt = T) ∧ (kf S j 6 = 1 → ∀ q, q ≤ kw S j 5 → kf S j 9 = nI q → (kf S j 7).toInt = (if kf S j 11 = 0 then (S.1 (22, j, 0) q).toInt + (S.1 (23, j, 0) q).toInt else 0) + lsum S j q) ∧ (kf S j 6 = 2 → kf S j 7 = 0)
/-- channel j of the class and of the model -/
def CC (S : CS) (A : MS) (j : Nat) : Prop := C1 S A j ∧ C2 S A j ∧ C3 S A j ∧ C4 S A j ∧ C5 S A j ∧ C6 S A j ∧ C7 S A j ∧ C8 S A j ∧ C9 S j
/-- what changes nothing of channel j, in the class, in the model -/
def chS (S S' : CS) (j : Nat) : Prop := (∀ r : RO, 21 ≤ r.1 → r.1 ≤ 26 → r.2.1 = j → S'.1 r = S.1 r ∧ S'.2.1 r = S.2.1 r ∧ S'.2.2.1 r = S.2.2.1 r) ∧ S'.2.2.2 (24, j, 0) 0 = S.2.2.2 (24, j, 0) 0
def chIx (k j i : Nat) : Prop := if k = 10 then 128 * j ≤ i ∧ i < 128 * j + 128 else if k = 11 ∨ k = 14 ∨ k = 15 ∨ k = 16 ∨ k = 17 then 64 * j ≤ i ∧ i < 64 * j + 64 else i = j
def chM (A A' : MS) (j : Nat) : Prop := ∀ k i, 6 ≤ k → k ≤ 22 → chIx k j i → A'.2.1 k i = A.2.1 k i ∧ A'.2.2 k i = A.2.2 k i
theorem chS.refl (S : CS) (j : Nat) : chS S S j := ⟨fun _ _ _ _ => ⟨rfl, rfl, rfl⟩, rfl⟩
theorem chM.refl (A : MS) (j : Nat) : chM A A j := fun _ _ _ _ _ => ⟨rfl, rfl⟩
theorem chS.put {S S' : CS} {j : Nat} (h : chS S S' j) {r : RO} (hr : r.1 < 21 ∨ 26 < r.1 ∨ r.2.1 ≠ j) (f : Nat → Int32) (g : Nat → Int64) (w : Nat → Nat) : chS S (cset S' r f g w) j := by
  refine ⟨fun q h1 h2 h3 => ?_, h.2⟩
  have hne : q ≠ r := fun z => by rw [z] at h1 h2 h3; omega
  rw [cset_f, cset_g, cset_w, if_neg hne, if_neg hne, if_neg hne]
  exact h.1 q h1 h2 h3
theorem chS.I {S S' : CS} {j : Nat} (h : chS S S' j) {r : RO} (hr : r.1 < 21 ∨ 26 < r.1 ∨ r.2.1 ≠ j) {i : Nat} {x : Int32} : chS S (cfI S' r i x) j := h.put hr _ _ _
theorem chS.J {S S' : CS} {j : Nat} (h : chS S S' j) {r : RO} (hr : r.1 < 21 ∨ 26 < r.1 ∨ r.2.1 ≠ j) {i : Nat} {x : Int64} : chS S (cfJ S' r i x) j := h.put hr _ _ _
theorem chS.N {S S' : CS} {j : Nat} (h : chS S S' j) {r : RO} (hr : r.1 < 21 ∨ 26 < r.1 ∨ r.2.1 ≠ j) {i : Nat} {x : Nat} : chS S (cfN S' r i x) j := h.put hr _ _ _
theorem chM.I {A A' : MS} {j : Nat} (h : chM A A' j) {k i : Nat} {x : Int32} (hk : k < 6 ∨ 22 < k ∨ ¬ chIx k j i) : chM A (mI A' k i x) j := by
  intro a b h1 h2 h3
  rw [mI_i, mI_j]
  by_cases e : a = k ∧ b = i
  · obtain ⟨rfl, rfl⟩ := e
    rcases hk with z | z | z
    · omega
    · omega
    · exact absurd h3 z
  · rw [if_neg e]
    exact h a b h1 h2 h3
theorem chM.J {A A' : MS} {j : Nat} (h : chM A A' j) {k i : Nat} {x : Int64} (hk : k < 6 ∨ 22 < k ∨ ¬ chIx k j i) : chM A (mJ A' k i x) j := by
  intro a b h1 h2 h3
  rw [mJ_i, mJ_j]
  by_cases e : a = k ∧ b = i
  · obtain ⟨rfl, rfl⟩ := e
    rcases hk with z | z | z
    · omega
    · omega
    · exact absurd h3 z
  · rw [if_neg e]
    exact h a b h1 h2 h3
theorem chM.F {A A' : MS} {j : Nat} (h : chM A A' j) {i : Nat} {x : Int32} : chM A (mF A' i x) j := h
theorem CC.frS {S S' : CS} {A : MS} {j : Nat} (c : CC S A j) (h : chS S S' j) : CC S' A j := by
  have e1 := h.1 (21, j, 0) (by show 21 ≤ _; omega) (by show _ ≤ 26; omega) rfl
  have e2 := (h.1 (22, j, 0) (by show 21 ≤ _; omega) (by show _ ≤ 26; omega) rfl).1
  have e3 := (h.1 (23, j, 0) (by show 21 ≤ _; omega) (by show _ ≤ 26; omega) rfl).1
  have e4 := fun k => h.1 (26, j, k) (by show 21 ≤ _; omega) (by show _ ≤ 26; omega) rfl
  have e5 := h.2
  have f1 := e1.1
  have f3 := e1.2.2
  have g1 := fun k => (e4 k).1
  have g2 := fun k => (e4 k).2.1
  have g3 := fun k => (e4 k).2.2
  unfold CC C1 C2 C3 C4 C5 C6 C7 C8 C9 psum lsum plf pin pam kf kw kn kp kq at *
  rw [f1, f3, e2, e3, e5]
  simp only [g1, g2, g3]
  exact c
theorem CC.frM {S : CS} {A A' : MS} {j : Nat} (c : CC S A j) (h : chM A A' j) : CC S A' j := by
  obtain ⟨c1, c2, c3, c4, c5, c6, c7, c8, c9⟩ := c
  have s : ∀ k, 6 ≤ k → k ≤ 22 → k ≠ 10 → k ≠ 11 → k ≠ 14 → k ≠ 15 → k ≠ 16 → k ≠ 17 → A'.2.1 k j = A.2.1 k j ∧ A'.2.2 k j = A.2.2 k j := fun k h1 h2 a b c d e f => h k j h1 h2 (by unfold chIx; simp [a, b, c, d, e, f])
  have t : ∀ k i, (k = 11 ∨ k = 14 ∨ k = 15 ∨ k = 16 ∨ k = 17) → i < 64 → A'.2.1 k (64 * j + i) = A.2.1 k (64 * j + i) ∧ A'.2.2 k (64 * j + i) = A.2.2 k (64 * j + i) := fun k i hk hi => h k (64 * j + i) (by omega) (by omega) (by unfold chIx; rw [if_neg (by omega), if_pos hk]; omega)
  have u : ∀ l s, l < 64 → s < 2 → A'.2.1 10 (2 * (64 * j + l) + s) = A.2.1 10 (2 * (64 * j + l) + s) := fun l s hl hs => (h 10 _ (by omega) (by omega) (by unfold chIx; rw [if_pos rfl]; omega)).1
  have hL := c2.2.1
  have hn := c2.2.2.2
  refine ⟨?_, ?_, ?_, ?_, ?_, ?_, ?_, ?_, c9⟩
  · unfold C1
    rw [(s 6 (by decide) (by decide) (by decide) (by decide) (by decide) (by decide) (by decide) (by decide)).1, (s 7 (by decide) (by decide) (by decide) (by decide) (by decide) (by decide) (by decide) (by decide)).1]
    exact c1
  · unfold C2
    rw [(s 9 (by decide) (by decide) (by decide) (by decide) (by decide) (by decide) (by decide) (by decide)).1, (s 13 (by decide) (by decide) (by decide) (by decide) (by decide) (by decide) (by decide) (by decide)).1]
    exact c2
  · unfold C3
    rw [(s 8 (by decide) (by decide) (by decide) (by decide) (by decide) (by decide) (by decide) (by decide)).1, (s 12 (by decide) (by decide) (by decide) (by decide) (by decide) (by decide) (by decide) (by decide)).1, (s 18 (by decide) (by decide) (by decide) (by decide) (by decide) (by decide) (by decide) (by decide)).1, (s 20 (by decide) (by decide) (by decide) (by decide) (by decide) (by decide) (by decide) (by decide)).1, (s 22 (by decide) (by decide) (by decide) (by decide) (by decide) (by decide) (by decide) (by decide)).1]
    exact c3
  · unfold C4
    rw [(s 19 (by decide) (by decide) (by decide) (by decide) (by decide) (by decide) (by decide) (by decide)).1]
    exact c4
  · intro l hl
    rw [u l 0 (by omega) (by omega), u l 1 (by omega) (by omega)]
    exact c5 l hl
  · intro k hk
    rw [(t 14 k (by decide) (by omega)).1, (t 15 k (by decide) (by omega)).1, (t 16 k (by decide) (by omega)).2, (t 17 k (by decide) (by omega)).1]
    exact c6 k hk
  · intro l hl
    rw [(t 11 l (by decide) (by omega)).2]
    exact c7 l hl
  · unfold C8
    rw [(s 21 (by decide) (by decide) (by decide) (by decide) (by decide) (by decide) (by decide) (by decide)).2]
    exact c8
theorem CC.fr {S S' : CS} {A A' : MS} {j : Nat} (c : CC S A j) (h : chS S S' j) (h' : chM A A' j) : CC S' A' j := (c.frS h).frM h'
/-- nodes: height, coins, fees, who watches -/
def XN (S : CS) (A : MS) : Prop := S.1 (0, 0, 0) 0 = A.1 6 ∧ S.1 (1, 0, 0) = A.2.1 1 ∧ S.1 (2, 0, 0) = A.2.1 2 ∧ S.1 (3, 0, 0) = A.2.1 3 ∧ S.1 (4, 0, 0) = A.2.1 4 ∧ S.1 (5, 0, 0) = A.2.1 5 ∧ ∀ p, p < 6 → 0 ≤ (A.2.1 2 p).toInt ∧ (A.2.1 2 p).toInt ≤ 10000 ∧ 0 ≤ (A.2.1 3 p).toInt ∧ (A.2.1 3 p).toInt ≤ 1000000
/-- secrets -/
def XK (S : CS) (A : MS) : Prop := A.1 25 = nI (S.2.2.1 (6, 0, 0) 0) ∧ S.2.1 (7, 0, 0) = A.2.2 23 ∧ S.1 (8, 0, 0) = A.2.1 24 ∧ cdis S
/-- channels -/
def mfr (A : MS) (j : Nat) : Prop := A.2.1 8 j = 0 ∧ A.2.1 9 j = 0 ∧ A.2.1 13 j = 0 ∧ A.2.1 18 j = -1 ∧ A.2.1 20 j = -1 ∧ A.2.1 22 j = 0 ∧ A.2.2 11 (64 * j) = 0
def XC1 (S : CS) (A : MS) : Prop := A.1 7 = nI (kC S) ∧ kC S ≤ 8 ∧ (∀ j, j < kC S → CC S A j) ∧ ∀ j, kC S ≤ j → j < 8 → mfr A j
/-- all coins -/
def tot (f : Nat → Int) : Nat → Int
  | 0 => 0
  | k + 1 => tot f k + f k
def XM1 (S : CS) : Prop := (∀ i, i < 6 → 0 ≤ (S.1 (1, 0, 0) i).toInt) ∧ tot (fun i => (S.1 (1, 0, 0) i).toInt) 6 + tot (fun j => (kf S j 7).toInt) (kC S) = 6000000
/-- payments -/
def YY (S : CS) (A : MS) (p : Nat) : Prop :=
  (A.2.1 29 p = S.1 (27, p, 0) 8 ∧ A.2.1 30 p = S.1 (27, p, 0) 9 ∧ A.2.1 31 p = nI (S.2.2.1 (27, p, 0) 10) ∧ A.2.1 32 p = nI (S.2.2.1 (27, p, 0) 11) ∧ A.2.1 33 p = S.1 (27, p, 0) 12 ∧ A.2.1 34 p = nI (S.2.2.2 (27, p, 0) 0) ∧ A.2.1 35 p = nI (S.2.2.1 (27, p, 0) 0) ∧ A.2.2 36 p = S.2.1 (27, p, 0) 0) ∧
  (S.2.2.2 (27, p, 0) 0 ≤ 5 ∧ S.2.2.1 (27, p, 0) 0 < 6 ∧ S.2.2.1 (27, p, 0) 10 ≤ S.2.2.2 (27, p, 0) 0 ∧ S.2.2.1 (27, p, 0) 11 ≤ S.2.2.1 (27, p, 0) 10) ∧
  ((S.1 (27, p, 0) 8 = 0) ∨ S.1 (27, p, 0) 8 = 3 ∨ ((S.1 (27, p, 0) 8 = 1 ∨ S.1 (27, p, 0) 8 = 2) ∧ 1 ≤ S.2.2.1 (27, p, 0) 11)) ∧
  (S.1 (27, p, 0) 9 = 1 → ∃ k, k < S.2.2.1 (6, 0, 0) 0 ∧ S.2.1 (7, 0, 0) k = S.2.1 (27, p, 0) 0) ∧
  (∀ i, i < S.2.2.2 (27, p, 0) 0 → ∃ c v, c < kC S ∧ (v = kw S c 0 ∨ v = kw S c 1) ∧ S.1 (28, p, 0) i = nI c ∧ A.2.1 37 (5 * p + i) = nI c ∧ S.1 (29, p, 0) i = nI v ∧ A.2.1 41 (5 * p + i) = nI v ∧ A.2.1 38 (5 * p + i) = S.1 (30, p, 0) i ∧ 1 ≤ (S.1 (30, p, 0) i).toInt ∧ A.2.1 39 (5 * p + i) = S.1 (31, p, 0) i ∧
    (i < S.2.2.1 (27, p, 0) 10 → ∃ q, q < kn S c ∧ S.1 (32, p, 0) i = nI q ∧ A.2.1 40 (5 * p + i) = nI q ∧ kp S c q 4 = S.1 (31, p, 0) i ∧ S.2.1 (26, c, q) 0 = S.2.1 (27, p, 0) 0))
def pfr (A : MS) (p : Nat) : Prop := A.2.1 29 p = 0 ∧ A.2.1 30 p = 0 ∧ A.2.1 31 p = 0 ∧ A.2.1 32 p = 0 ∧ A.2.1 33 p = 0
def XP (S : CS) (A : MS) : Prop := A.1 34 = nI (kP S) ∧ kP S ≤ 16 ∧ (∀ p, p < kP S → YY S A p) ∧ ∀ p, kP S ≤ p → p < 16 → pfr A p
/-- the route found last -/
def XR (S : CS) (A : MS) : Prop := ∃ B, bestB S B ∧ RepB A.1 (A.2.1 25) B
/-- a state holds at most 6 promises -/
def XB (S : CS) : Prop := ∀ j, j < kC S → cnt (pin S j (kw S j 5)) (kn S j) ≤ 6
def Cpl (S : CS) (A : MS) : Prop := XN S A ∧ XK S A ∧ XC1 S A ∧ XM1 S ∧ XP S A ∧ XR S A ∧ XB S
