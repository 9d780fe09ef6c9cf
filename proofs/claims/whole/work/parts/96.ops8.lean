/- Part 96: class and model side by side: promise, open. -/
def kbal (S : CS) (j r : Nat) : Int32 := if r = 0 then S.1 (22, j, 0) (kw S j 5) else S.1 (23, j, 0) (kw S j 5)
theorem CC.balr {S : CS} {A : MS} {j r : Nat} (cc : CC S A j) (hr : r < 2) : A.2.1 10 (2 * (64 * j + kw S j 5) + r) = kbal S j r := by
  obtain ⟨b1, b2⟩ := cc.2.2.2.2.1 _ (Nat.le_refl _)
  unfold kbal
  rcases Nat.lt_or_ge r 1 with z | z
  · rw [show r = 0 by omega, if_pos rfl]
    exact b1
  · rw [show r = 1 by omega, if_neg (by decide)]
    exact b2
theorem CC.car {S : CS} {A : MS} {j r : Nat} (cc : CC S A j) (hr : r < 2) (a : Int32) : ccarC S j (nI (kw S j r)) a = true ↔ (kf S j 6 = 0 ∧ a ≤ kbal S j r ∧ cnt (pin S j (kw S j 5)) (kn S j) < 6) := by
  have hN : kn S j ≤ 64 := by
    have := cc.2.1.2.1
    have := cc.2.1.2.2.2
    omega
  have hcn := cnt_le (p := pin S j (kw S j 5)) (kn S j)
  have e : cpr (fun k => S.1 (26, j, k) 5) (fun k => S.1 (26, j, k) 6) (nI (S.2.2.1 (21, j, 0) 5)) (S.2.2.2 (24, j, 0) 0) < 6 ↔ cnt (pin S j (kw S j 5)) (kn S j) < 6 := by
    rw [cpr_cnt]
    exact xn_lt (n := 6) (by show cnt (pin S j (kw S j 5)) (kn S j) < _; omega) (by decide)
  have b : (if nI (kw S j r) = nI (S.2.2.1 (21, j, 0) 0) then S.1 (22, j, 0) (S.2.2.1 (21, j, 0) 5) else S.1 (23, j, 0) (S.2.2.1 (21, j, 0) 5)) = kbal S j r := by
    unfold kbal
    have := cc.1.two
    rcases Nat.lt_or_ge r 1 with z | z
    · rw [show r = 0 by omega, if_pos rfl, if_pos rfl]
    · rw [show r = 1 by omega, if_neg (fun z => cc.1.2.2.2.2 ((xn_inj (by omega) (by omega)).mp z).symm), if_neg (by decide)]
  unfold ccarC ccar
  rw [decide_eq_true_eq, b, e]
theorem C1.r {S : CS} {A : MS} {j : Nat} {n : Int32} (c1 : C1 S A j) (h : n = nI (kw S j 0) ∨ n = nI (kw S j 1)) : ∃ r, r < 2 ∧ n = nI (kw S j r) ∧ ck n = kw S j r ∧ mside A j n = nI r ∧ msd A j n = r ∧ cpart S j (kw S j r) = kw S j (1 - r) := by
  obtain ⟨s1, s2, s3⟩ := c1.side n
  have := c1.two
  rcases h with z | z
  · refine ⟨0, by decide, z, ?_, (s2 z).1, (s2 z).2, ?_⟩
    · rw [z]
      exact xn_clamp (by omega)
    · unfold cpart
      rw [if_pos rfl]
  · refine ⟨1, by decide, z, ?_, (s3 z).1, (s3 z).2, ?_⟩
    · rw [z]
      exact xn_clamp (by omega)
    · unfold cpart
      rw [if_neg (fun z => c1.2.2.2.2 ((xn_inj (by omega) (by omega)).mp z).symm)]
theorem XB.six {S : CS} {A : MS} {j : Nat} (x : XB S) (hj : j < kC S) (cc : CC S A j) : bitsN (mnow A j (kw S j 5)) 64 = 6 ↔ ¬ cnt (pin S j (kw S j 5)) (kn S j) < 6 := by
  have h := x j hj
  rw [cc.bits.1, show (6 : Int32) = nI 6 from rfl, xn_inj (by omega) (by decide)]
  omega
theorem p_prom {S : CS} {A : MS} {c n a e : Int32} {lo : Int64} (C : Cpl S A) : tProm A c n a e (ck c) (kw S (ck c) 5) = cd [8, 9, 10] (ePromC S c n a e (ck c)) ∧ (ePromC S c n a e (ck c) = none → ∀ c0 mo, Cpl (czl (cprm S (ck c) (S.2.2.2 (24, ck c, 0) 0) (ck n) (cpart S (ck c) (ck n)) a lo e) (24, ck c, 0) (S.2.2.2 (24, ck c, 0) 0 + 1) c0 mo) (madd (mF A 0 0) (ck c) (kw S (ck c) 5) (kn S (ck c)) (mside A (ck c) n) a lo e)) := by
  have he := isc_eq C.2.2.1 c
  unfold tProm ePromC
  rw [he]
  by_cases h1 : cAt S c = true
  · obtain ⟨-, h2⟩ := C.2.2.1.at h1
    have cc := C.2.2.1.2.2.1 _ h2
    have hL := cc.2.1.2.1
    have hs := cc.1.sided n
    have ee : (cAt S c = true ∧ mside A (ck c) n ≠ -1) ↔ (cAt S c = true ∧ (n = nI (S.2.2.1 (21, ck c, 0) 0) ∨ n = nI (S.2.2.1 (21, ck c, 0) 1))) := by rw [hs]
    by_cases h3 : cAt S c = true ∧ (n = nI (S.2.2.1 (21, ck c, 0) 0) ∨ n = nI (S.2.2.1 (21, ck c, 0) 1))
    · rw [if_pos (ee.mpr h3), if_pos h3]
      obtain ⟨r, r1, r2, r3, r4, r5, r6⟩ := cc.1.r h3.2
      by_cases h5 : 1 ≤ a
      · rw [if_neg (fun z => (le_nlt _ _).mp h5 z), if_pos h5]
        have hcar := cc.car r1 a
        rw [← r2] at hcar
        have hcond : (A.2.1 8 (ck c) ≠ 0 ∨ bitsN (mnow A (ck c) (kw S (ck c) 5)) 64 = 6 ∨ ¬ A.2.1 9 (ck c) + 1 < 64 ∨ A.2.1 10 (2 * (64 * ck c + kw S (ck c) 5) + msd A (ck c) n) < a ∨ e ≤ A.1 6) ↔ ¬ ((ccarC S (ck c) n a = true ∧ S.1 (0, 0, 0) 0 < e) ∧ nI (S.2.2.1 (21, ck c, 0) 5) < 63) := by
          rw [hcar, r5, cc.balr r1, C.2.2.2.2.2.2.six h2 cc, cc.room, cc.2.2.1.1, C.1.1, le_nlt, le_nlt]
          refine ⟨?_, fun h => ?_⟩
          · rintro (z | z | z | z | z) ⟨⟨⟨y1, y2, y3⟩, y4⟩, y5⟩
            · exact z y1
            · exact z y3
            · exact z y5
            · exact y2 z
            · exact z y4
          · by_cases x1 : kf S (ck c) 6 = 0
            · by_cases x2 : cnt (pin S (ck c) (kw S (ck c) 5)) (kn S (ck c)) < 6
              · by_cases x3 : nI (kw S (ck c) 5) < 63
                · by_cases x4 : kbal S (ck c) r < a
                  · exact Or.inr (Or.inr (Or.inr (Or.inl x4)))
                  · exact Or.inr (Or.inr (Or.inr (Or.inr (fun x5 => h ⟨⟨⟨x1, x4, x2⟩, x5⟩, x3⟩))))
                · exact Or.inr (Or.inr (Or.inl x3))
              · exact Or.inr (Or.inl x2)
            · exact Or.inl x1
        by_cases h4 : (ccarC S (ck c) n a = true ∧ S.1 (0, 0, 0) 0 < e) ∧ nI (S.2.2.1 (21, ck c, 0) 5) < 63
        · rw [if_neg (fun z => hcond.mp z h4), if_pos h4]
          refine ⟨rfl, fun _ c0 mo => ?_⟩
          have hL63 : kw S (ck c) 5 < 63 := (xn_lt (by omega) (by decide)).mp h4.2
          obtain ⟨y1, y2, y3⟩ := hcar.mp h4.1.1
          rw [r3, r4, r6]
          have y2' := Int32.le_iff_toInt_le.mp y2
          unfold kbal at y2'
          exact (C.F0 0).addp h2 hL63 y1 r1 rfl rfl (Int32.le_iff_toInt_le.mp h5) ⟨fun z => by rw [if_pos z] at y2'; exact y2', fun z => by rw [if_neg (by omega)] at y2'; exact y2'⟩ y3 c0 mo
        · rw [if_pos (hcond.mpr h4), if_neg h4]
          exact ⟨rfl, fun z => by cases z⟩
      · rw [if_pos (by rw [le_nlt] at h5; exact Classical.not_not.mp h5), if_neg h5]
        exact ⟨rfl, fun z => by cases z⟩
    · rw [if_neg (fun z => h3 (ee.mp z)), if_neg h3]
      exact ⟨rfl, fun z => by cases z⟩
  · rw [if_neg (fun z => h1 z.1), if_neg (fun z => h1 z.1)]
    exact ⟨rfl, fun z => by cases z⟩
theorem cnew_sk (S : CS) (fi si : Nat) (a b : Int32) (c : Nat) (mo : Int32) : sk (fun k => k = 1 ∨ k = 9 ∨ 21 ≤ k ∧ k ≤ 24) S (cnew S fi si a b c mo) := fun r hr => by
  have n1 : r ≠ (9, 0, 0) := fun z => hr (by rw [z]; exact Or.inr (Or.inl rfl))
  have n2 : r ≠ (1, 0, 0) := fun z => hr (by rw [z]; exact Or.inl rfl)
  have n3 : ∀ k, 21 ≤ k → k ≤ 24 → r ≠ (k, kC S, 0) := fun k h1 h2 z => hr (by rw [z]; exact Or.inr (Or.inr ⟨h1, h2⟩))
  exact ⟨cnew_i S fi si a b c mo r n1 n2 n3, cnew_g S fi si a b c mo r, cnew_w S fi si a b c mo r (n3 21 (by decide) (by decide))⟩
theorem mopen_ak (A : MS) (n f s : Nat) (a b : Int32) : ak (fun j => j = 0 ∨ j = 7) (fun k => k = 1 ∨ 6 ≤ k ∧ k ≤ 22) A (mopen A n f s a b) := by
  unfold mopen
  exact (((((((((ak.refl _ _ A).F (Or.inl rfl)).F (Or.inr rfl)).I (by decide)).I (by decide)).I (Or.inl rfl)).I (Or.inl rfl)).I (by decide)).I (by decide)).I (by decide)
theorem Cpl.newc {S : CS} {A : MS} {fi si : Nat} {a b : Int32} (C : Cpl S A) (h8 : kC S < 8) (hf : fi < 6) (hs : si < 6) (hn : fi ≠ si) (ha : 0 ≤ a.toInt) (hb : 0 ≤ b.toInt) (hla : a.toInt ≤ (S.1 (1, 0, 0) fi).toInt) (hlb : b.toInt ≤ (S.1 (1, 0, 0) si).toInt) (c0 : Nat) (mo : Int32) : Cpl (cnew S fi si a b c0 mo) (mopen A (kC S) fi si a b) := by
  obtain ⟨x1, x2, x3, x4, x5, x6, x7⟩ := C
  have hle := x4.le x3
  have m1 := hle.1 fi hf
  have m2 := hle.1 si hs
  have s := cnew_sk S fi si a b c0 mo
  have k := mopen_ak A (kC S) fi si a b
  have CN := CC.newc (S := S) (A := A) (x3.2.2.2 _ (Nat.le_refl _) h8) hf hs hn ha hb (by omega) c0 mo
  have hC := cnew_C S fi si a b c0 mo
  have hco := cnew_co S fi si a b c0 mo
  have e1 : (S.1 (1, 0, 0) fi - a).toInt = (S.1 (1, 0, 0) fi).toInt - a.toInt := i_sub (by omega) (by omega)
  have e2 : (S.1 (1, 0, 0) si - b).toInt = (S.1 (1, 0, 0) si).toInt - b.toInt := i_sub (by omega) (by omega)
  have e3 : (a + b).toInt = a.toInt + b.toInt := i_add (by omega) (by omega)
  have u1 : upd (S.1 (1, 0, 0)) fi (S.1 (1, 0, 0) fi - a) si = S.1 (1, 0, 0) si := by
    unfold upd
    rw [if_neg (fun z => hn z.symm)]
  rw [u1] at hco
  have cof : ∀ i, (upd (upd (S.1 (1, 0, 0)) fi (S.1 (1, 0, 0) fi - a)) si (S.1 (1, 0, 0) si - b) i).toInt = if i = si then (S.1 (1, 0, 0) si).toInt - b.toInt else if i = fi then (S.1 (1, 0, 0) fi).toInt - a.toInt else (S.1 (1, 0, 0) i).toInt := fun i => by
    unfold upd
    by_cases z : i = si
    · rw [if_pos z, if_pos z, e2]
    · rw [if_neg z, if_neg z]
      by_cases y : i = fi
      · rw [if_pos y, if_pos y, e1]
      · rw [if_neg y, if_neg y]
  have h7 : kf (cnew S fi si a b c0 mo) (kC S) 7 = a + b := by
    unfold kf cnew czl cop0
    simp [chf0]
  have h0 : kn (cnew S fi si a b c0 mo) (kC S) = 0 := by
    unfold kn cnew czl cop0 zset
    simp
  have hd : ∀ j, j < kC S → chS S (cnew S fi si a b c0 mo) j := fun j hj => cnew_chS S fi si a b c0 mo (by omega)
  refine ⟨x1.fr1 s k (fun k h h' => by omega) (by decide) (fun k h1 h2 => by omega) ?_, x2.fr s k (by decide) (by decide) (by decide), ?_, ?_, x5.fr ?_ s ?_ (fun p => ?_) k (fun k h1 h2 => by omega) (by decide) (fun k h1 h2 => by omega), x6.fr s k (fun k h1 h2 => by omega) (by decide) (by decide), ?_⟩
  · rw [hco, x1.2.1]
    show _ = upd (upd (A.2.1 1) fi (A.2.1 1 fi - a)) si (upd (A.2.1 1) fi (A.2.1 1 fi - a) si - b)
    rw [show upd (A.2.1 1) fi (A.2.1 1 fi - a) si = A.2.1 1 si by unfold upd; rw [if_neg (fun z => hn z.symm)]]
  · unfold XC1
    rw [hC]
    refine ⟨?_, by omega, fun j hj => ?_, fun j h1 h2 => (x3.2.2.2 j (by omega) h2).frM (mopen_chM A (by omega))⟩
    · show nI (kC S) + 1 = _
      exact xn_succ _
    · by_cases e : j = kC S
      · subst e
        exact CN
      · exact (x3.2.2.1 j (by omega)).fr (hd j (by omega)) (mopen_chM A e)
  · unfold XM1
    rw [hC, hco]
    refine ⟨fun i hi => ?_, ?_⟩
    · rw [cof]
      have := (hle.1 i hi).1
      split
      · omega
      · split <;> omega
    · have t1 : tot (fun i => if i = fi then (S.1 (1, 0, 0) fi).toInt - a.toInt else (S.1 (1, 0, 0) i).toInt) 6 = tot (fun i => (S.1 (1, 0, 0) i).toInt) 6 + (((S.1 (1, 0, 0) fi).toInt - a.toInt) - (S.1 (1, 0, 0) fi).toInt) := by
        rw [tot_upd (f := fun i => (S.1 (1, 0, 0) i).toInt) (i := fi) 6 hf (fun k _ h => by simp only [if_neg h])]
        simp only [if_true]
      have t2 : tot (fun i => (upd (upd (S.1 (1, 0, 0)) fi (S.1 (1, 0, 0) fi - a)) si (S.1 (1, 0, 0) si - b) i).toInt) 6 = tot (fun i => if i = fi then (S.1 (1, 0, 0) fi).toInt - a.toInt else (S.1 (1, 0, 0) i).toInt) 6 + (((S.1 (1, 0, 0) si).toInt - b.toInt) - (S.1 (1, 0, 0) si).toInt) := by
        rw [tot_upd (f := fun i => if i = fi then (S.1 (1, 0, 0) fi).toInt - a.toInt else (S.1 (1, 0, 0) i).toInt) (i := si) 6 hs (fun k _ h => by simp only [cof, if_neg h])]
        simp only [cof, if_true, if_neg (fun z : si = fi => hn z.symm)]
      rw [t2, t1]
      show _ + (tot (fun j => (kf (cnew S fi si a b c0 mo) j 7).toInt) (kC S) + (kf (cnew S fi si a b c0 mo) (kC S) 7).toInt) = 6000000
      rw [h7, e3, tot_ext (g := fun j => (kf S j 7).toInt) (kC S) (fun j hj => by
        show (kf (cnew S fi si a b c0 mo) j 7).toInt = _
        unfold kf
        rw [((hd j hj).1 (21, j, 0) (by show 21 ≤ 21; omega) (by show 21 ≤ 26; omega) rfl).1])]
      have := x4.2
      omega
  · refine mon_of (by omega) (fun c hc => ?_) ((s (6, 0, 0) (by decide)).2.2) ((s (7, 0, 0) (by decide)).2.1)
    have q := hd c hc
    have q1 := (q.1 (21, c, 0) (by show 21 ≤ 21; omega) (by show 21 ≤ 26; omega) rfl).2.2
    refine ⟨by unfold kw; rw [q1], by unfold kw; rw [q1], Nat.le_of_eq q.2.symm, fun i _ => ?_⟩
    have q2 := q.1 (26, c, i) (by show 21 ≤ 26; omega) (by show 26 ≤ 26; omega) rfl
    exact ⟨by unfold kp; rw [q2.1], by rw [q2.2.1]⟩
  · rw [cnew_z S fi si a b c0 mo _ (by simp) (by simp)]
  · rw [cnew_z S fi si a b c0 mo _ (by simp) (by simp)]
  · intro j hj
    rw [hC] at hj
    by_cases e : j = kC S
    · rw [e, h0]
      exact Nat.zero_le _
    · rw [(hd j (by omega)).cnt]
      exact x7 j (by omega)
theorem p_open {S : CS} {A : MS} {f s a b : Int32} (C : Cpl S A) : tOpen A f s a b = cd [8, 9, 10] (eOpenC S f s a b (ck f) (ck s)) ∧ (eOpenC S f s a b (ck f) (ck s) = none → ∀ c0 mo, Cpl (czl (cop0 (cop1 S (ck f) (ck s) a b) (S.2.2.2 (9, 0, 0) 0) (ck f) (ck s) a b) (9, 0, 0) (S.2.2.2 (9, 0, 0) 0 + 1) c0 mo) (mopen A (kC S) (ck f) (ck s) a b)) := by
  unfold tOpen eOpenC
  by_cases h1 : nd f = true ∧ nd s = true
  · rw [if_pos h1, if_pos h1]
    obtain ⟨f1, f2⟩ := nd_of h1.1
    obtain ⟨s1, s2⟩ := nd_of h1.2
    have z0 : ∀ x : Int32, 0 < x ↔ 0 < x.toInt := fun x => Int32.lt_iff_toInt_lt
    have z1 : ∀ x : Int32, x < 0 ↔ x.toInt < 0 := fun x => Int32.lt_iff_toInt_lt
    have z2 : ∀ x : Int32, x = 0 ↔ x.toInt = 0 := fun x => Int32.toInt_inj.symm
    have hc1 : (f = s ∨ a < 0 ∨ b < 0 ∨ (a = 0 ∧ b = 0)) ↔ ¬ (f ≠ s ∧ (0 ≤ a ∧ 0 ≤ b ∧ (0 < a ∨ 0 < b))) := by
      rw [z1, z1, z2, z2, le_0, le_0, z0, z0]
      by_cases e : f = s
      · exact ⟨fun _ h => h.1 e, fun _ => Or.inl e⟩
      · simp only [e, ne_eq, not_false_eq_true, true_and, false_or]
        omega
    by_cases h2 : f ≠ s ∧ (0 ≤ a ∧ 0 ≤ b ∧ (0 < a ∨ 0 < b))
    · rw [if_neg (fun z => hc1.mp z h2), if_pos h2]
      have h8 := C.2.2.1.2.1
      have hc2 : (A.1 7 = 8 ∨ A.2.1 1 f.toNatClampNeg < a ∨ A.2.1 1 s.toNatClampNeg < b) ↔ ¬ (S.2.2.2 (9, 0, 0) 0 < 8 ∧ (a ≤ S.1 (1, 0, 0) (ck f) ∧ b ≤ S.1 (1, 0, 0) (ck s))) := by
        have e7 : A.1 7 = 8 ↔ ¬ S.2.2.2 (9, 0, 0) 0 < 8 := by
          rw [C.2.2.1.1, show (8 : Int32) = nI 8 from rfl, xn_inj (by omega) (by decide)]
          show kC S = 8 ↔ ¬ kC S < 8
          omega
        rw [e7, C.1.2.1, le_nlt, le_nlt, Classical.not_and_iff_not_or_not, Classical.not_and_iff_not_or_not, Classical.not_not, Classical.not_not]
      by_cases h3 : S.2.2.2 (9, 0, 0) 0 < 8 ∧ (a ≤ S.1 (1, 0, 0) (ck f) ∧ b ≤ S.1 (1, 0, 0) (ck s))
      · rw [if_neg (fun z => hc2.mp z h3), if_pos h3]
        refine ⟨rfl, fun _ c0 mo => ?_⟩
        exact C.newc h3.1 f2 s2 (fun z => h2.1 (by rw [f1, s1, z])) (le_0.mp h2.2.1) (le_0.mp h2.2.2.1) (Int32.le_iff_toInt_le.mp h3.2.1) (Int32.le_iff_toInt_le.mp h3.2.2) c0 mo
      · rw [if_pos (hc2.mpr h3), if_neg h3]
        exact ⟨rfl, fun z => by cases z⟩
    · rw [if_pos (hc1.mpr h2), if_neg h2]
      exact ⟨rfl, fun z => by cases z⟩
  · rw [if_neg h1, if_neg h1]
    exact ⟨rfl, fun z => by cases z⟩
