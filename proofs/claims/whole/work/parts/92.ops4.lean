/- Part 92: class and model side by side: coins move out of a channel. -/
def MM (co : Nat → Int32) (he : Nat → Int) (C : Nat) : Prop := (∀ i, i < 6 → 0 ≤ (co i).toInt) ∧ (∀ j, j < C → 0 ≤ he j) ∧ tot (fun i => (co i).toInt) 6 + tot he C = 6000000
theorem XM1.mm {S : CS} {A : MS} (m : XM1 S) (x : XC1 S A) : MM (S.1 (1, 0, 0)) (fun j => (kf S j 7).toInt) (kC S) := ⟨m.1, fun j hj => (x.2.2.1 j hj).held, m.2⟩
theorem MM.xm {S : CS} {co : Nat → Int32} {he : Nat → Int} {C : Nat} (m : MM co he C) (h1 : S.1 (1, 0, 0) = co) (h2 : kC S = C) (h3 : ∀ j, j < C → (kf S j 7).toInt = he j) : XM1 S := by
  unfold XM1
  rw [h1, h2, tot_ext (g := he) C h3]
  exact ⟨m.1, m.2.2⟩
/-- v coins go from channel j to node o -/
theorem MM.one {co : Nat → Int32} {he : Nat → Int} {C o j : Nat} {v : Int32} (m : MM co he C) (ho : o < 6) (hj : j < C) (h0 : 0 ≤ v.toInt) (h1 : v.toInt ≤ he j) : MM (upd co o (co o + v)) (fun i => if i = j then he j - v.toInt else he i) C ∧ (co o + v).toInt = (co o).toInt + v.toInt := by
  obtain ⟨m1, m2, m3⟩ := m
  have a1 := tot_le (f := fun i => (co i).toInt) 6 m1 ho
  have a2 := tot_le (f := he) C m2 hj
  have a3 := m1 o ho
  have a4 := tot_nonneg (f := fun i => (co i).toInt) 6 m1
  have a5 := tot_nonneg (f := he) C m2
  have a1' : (co o).toInt ≤ tot (fun i => (co i).toInt) 6 := a1
  have e : (co o + v).toInt = (co o).toInt + v.toInt := i_add (by omega) (by omega)
  refine ⟨⟨fun i hi => ?_, fun i hi => ?_, ?_⟩, e⟩
  · unfold upd
    by_cases z : i = o
    · rw [if_pos z, e]
      omega
    · rw [if_neg z]
      exact m1 i hi
  · by_cases z : i = j
    · simp only [if_pos z]
      omega
    · simp only [if_neg z]
      exact m2 i hi
  · rw [tot_upd (f := fun i => (co i).toInt) (i := o) 6 ho (fun k _ hk => by show (upd co o (co o + v) k).toInt = _; unfold upd; rw [if_neg hk]), tot_upd (f := he) (i := j) C hj (fun k _ hk => by simp only [if_neg hk])]
    have e2 : (upd co o (co o + v) o).toInt = (co o).toInt + v.toInt := by
      unfold upd
      rw [if_pos rfl]
      exact e
    simp only [e2, if_true]
    omega
/-- one channel changes, and coins go to nodes -/
theorem Cpl.chanC {S S' : CS} {A A' : MS} {j0 : Nat} (C : Cpl S A) (s : sk (fun k => k = 1 ∨ 21 ≤ k ∧ k ≤ 26) S S') (a : ak (fun _ => False) (fun k => k = 1 ∨ 8 ≤ k ∧ k ≤ 22) A A') (hz : S'.2.2.2 = S.2.2.2) (hm : Mon S S') (h0 : j0 < kC S) (c : CC S' A' j0) (hb : cnt (pin S' j0 (kw S' j0 5)) (kn S' j0) ≤ 6) (hc : S'.1 (1, 0, 0) = A'.2.1 1) (hM1 : XM1 S') (hS : ∀ j, j ≠ j0 → chS S S' j) (hM : ∀ j, j ≠ j0 → chM A A' j) : Cpl S' A' := by
  obtain ⟨x1, x2, x3, x4, x5, x6, x7⟩ := C
  have hC : kC S' = kC S := by
    unfold kC
    rw [hz]
  exact ⟨x1.fr1 s a (fun k h h' => by omega) id (fun k h1 h2 => by omega) hc, x2.fr s a (by decide) id (by decide), x3.one hC (a.1 7 id) h0 c hS hM, hM1, x5.fr hm s (by rw [hz]) (fun p => by rw [hz]) a (fun k h1 h2 => by omega) id (fun k h1 h2 => by omega), x6.fr s a (fun k h1 h2 => by omega) ⟨id, id⟩ (by decide), x7.one hC hb hS⟩
/-- what a change of a channel's ints and of coins leaves -/
theorem cs_Mon {S S' : CS} (h21 : ∀ r : RO, S'.2.2.1 r = S.2.2.1 r) (hz : S'.2.2.2 = S.2.2.2) (h4 : ∀ c q, kp S' c q 4 = kp S c q 4) (hg : ∀ r : RO, S'.2.1 r = S.2.1 r) : Mon S S' := by
  refine mon_of (by unfold kC; rw [hz]; exact Nat.le_refl _) (fun c _ => ⟨by unfold kw; rw [h21], by unfold kw; rw [h21], by unfold kn; rw [hz]; exact Nat.le_refl _, fun q _ => ⟨h4 c q, by rw [hg]⟩⟩) (h21 _) (hg _)
theorem cnt_same {S S' : CS} {j : Nat} (h21 : S'.2.2.1 (21, j, 0) = S.2.2.1 (21, j, 0)) (hz : S'.2.2.2 = S.2.2.2) (h5 : ∀ q, kp S' j q 5 = kp S j q 5 ∧ kp S' j q 6 = kp S j q 6) : cnt (pin S' j (kw S' j 5)) (kn S' j) = cnt (pin S j (kw S j 5)) (kn S j) := by
  unfold kw kn
  rw [h21, hz]
  refine cnt_ext _ (fun i _ => ?_)
  unfold pin
  rw [(h5 i).1, (h5 i).2]
theorem C1.two {S : CS} {A : MS} {j : Nat} (c : C1 S A j) : kw S j 0 < 6 ∧ kw S j 1 < 6 := ⟨c.2.2.1, c.2.2.2.1⟩
/-- the channel's ints of a cset, and all else -/
theorem cset_kf (S : CS) (j : Nat) (f : Nat → Int32) (g : Nat → Int64) (w : Nat → Nat) (j' i : Nat) : kf (cset S (21, j, 0) f g w) j' i = if j' = j then f i else kf S j' i := by
  unfold kf
  rw [cset_f]
  by_cases e : j' = j
  · rw [if_pos (by rw [e]), if_pos e]
  · rw [if_neg (fun z => e (by injection z with _ z; injection z)), if_neg e]
theorem C1.sided {S : CS} {A : MS} {j : Nat} (c : C1 S A j) (n : Int32) : mside A j n ≠ -1 ↔ (n = nI (kw S j 0) ∨ n = nI (kw S j 1)) := by
  unfold mside
  rw [c.1, c.2.1]
  by_cases z : n = nI (kw S j 0)
  · rw [if_pos z]
    exact ⟨fun _ => Or.inl z, fun _ => by decide⟩
  · rw [if_neg z]
    by_cases y : n = nI (kw S j 1)
    · rw [if_pos y]
      exact ⟨fun _ => Or.inr y, fun _ => by decide⟩
    · rw [if_neg y]
      exact ⟨fun x => absurd rfl x, fun x => absurd x (fun x => x.elim z y)⟩
theorem p_pub {S : CS} {A : MS} {c n s : Int32} (C : Cpl S A) : tPub A c n s (ck c) = cd [8, 10] (ePub S c n s (ck c)) ∧ (ePub S c n s (ck c) = none → Cpl (cpub S (ck c) n s) (mpub A (ck c) (ck s) n)) := by
  have he := isc_eq C.2.2.1 c
  unfold tPub ePub
  rw [he]
  by_cases h1 : cAt S c = true
  · obtain ⟨-, h2⟩ := C.2.2.1.at h1
    have cc := C.2.2.1.2.2.1 _ h2
    have hL := cc.2.1.2.1
    have hs := cc.1.sided n
    have ee : (cAt S c = true ∧ mside A (ck c) n ≠ -1 ∧ (0 ≤ s ∧ s ≤ nI (kw S (ck c) 5))) ↔ (cAt S c = true ∧ (n = nI (S.2.2.1 (21, ck c, 0) 0) ∨ n = nI (S.2.2.1 (21, ck c, 0) 1)) ∧ (0 ≤ s ∧ s ≤ nI (S.2.2.1 (21, ck c, 0) 5))) := by rw [hs]
    rw [cc.2.1.1]
    by_cases h3 : cAt S c = true ∧ (n = nI (S.2.2.1 (21, ck c, 0) 0) ∨ n = nI (S.2.2.1 (21, ck c, 0) 1)) ∧ (0 ≤ s ∧ s ≤ nI (S.2.2.1 (21, ck c, 0) 5))
    · rw [if_pos (ee.mpr h3), if_pos h3, cc.2.2.1.1]
      by_cases h4 : S.1 (21, ck c, 0) 6 = 0
      · rw [if_neg (fun z => z h4), if_pos h4]
        refine ⟨rfl, fun _ => ?_⟩
        have s1 := le_0.mp h3.2.2.1
        have s2 := (le_n (n := kw S (ck c) 5) (by omega)).mp h3.2.2.2
        obtain ⟨e1, e2⟩ := ck_of s1 (by omega)
        have hq : ck s ≤ kw S (ck c) 5 := by omega
        have P := cc.publ hq h3.2.1 h4 C.1.1
        rw [← e1] at P
        have C0 := C.F0 0
        have hb := C.2.2.2.2.2.2 _ h2
        refine C0.chan (j0 := ck c) ((sk.refl _ S).put (by show 21 ≤ 21 ∧ 21 ≤ 26; omega) _ _ _) ?_ ⟨rfl, rfl, fun _ => rfl⟩ ?_ h2 P ?_ ?_ (fun j' h => ?_) (fun j' h => mpub_chM (mF A 0 0) h)
        · unfold mpub
          exact (((((ak.refl _ _ (mF A 0 0)).I (by decide)).I (by decide)).I (by decide)).I (by decide)).J (by decide)
        · refine cs_Mon (fun r => ?_) rfl (fun c' q => ?_) (fun r => ?_)
          · unfold cpub
            rw [cset_w]
            split
            · rename_i z
              rw [z]
            · rfl
          · unfold kp cpub
            rw [cset_f, if_neg (by simp)]
          · unfold cpub
            rw [cset_g]
            split
            · rename_i z
              rw [z]
            · rfl
        · rw [cnt_same (S := S)]
          · exact hb
          · unfold cpub
            rw [cset_w, if_pos rfl]
          · rfl
          · intro q
            unfold kp cpub
            rw [cset_f, if_neg (by simp)]
            exact ⟨rfl, rfl⟩
        · unfold cpub
          rw [cset_kf, if_pos rfl]
          rfl
        · exact cs_chS (fun r _ => ⟨rfl, rfl, rfl⟩) rfl h
      · rw [if_pos h4, if_neg h4]
        exact ⟨rfl, fun z => by cases z⟩
    · rw [if_neg (fun z => h3 (ee.mp z)), if_neg h3]
      exact ⟨rfl, fun z => by cases z⟩
  · rw [if_neg (fun z => h1 z.1), if_neg (fun z => h1 z.1)]
    exact ⟨rfl, fun z => by cases z⟩
