/- Part 97: class and model side by side: grow; the start. -/
theorem Cpl.hgt {S : CS} {A : MS} (C : Cpl S A) : Cpl (cfI S (0, 0, 0) 0 (S.1 (0, 0, 0) 0 + 1)) (mF A 6 (A.1 6 + 1)) := by
  obtain ⟨x1, x2, x3, x4, x5, x6, x7⟩ := C
  have s : sk (fun k => k = 0) S (cfI S (0, 0, 0) 0 (S.1 (0, 0, 0) 0 + 1)) := sk.I (P := fun k => k = 0) (sk.refl _ S) rfl
  have a : ak (fun j => j = 6) (fun _ => False) A (mF A 6 (A.1 6 + 1)) := ak.F (F := fun j => j = 6) (ak.refl _ _ A) rfl
  refine ⟨?_, x2.fr s a (by decide) (by decide) ⟨id, id⟩, x3.all rfl rfl (fun j => sk_chS s (fun k h1 h2 => by omega) (fun _ => rfl) j) (fun j => ak_chM a (fun k h1 h2 => id) j), ?_, x5.fr (mon_sk s (fun k h => by omega) (Nat.le_refl _) (fun _ => Nat.le_refl _)) s rfl (fun _ => rfl) a (fun k h1 h2 => by omega) (by decide) (fun k h1 h2 => id), x6.fr s a (fun k h1 h2 => by omega) ⟨by decide, by decide⟩ id, x7.all rfl (fun j => sk_chS s (fun k h1 h2 => by omega) (fun _ => rfl) j)⟩
  · obtain ⟨y0, y1, y2, y3, y4, y5, y6⟩ := x1
    refine ⟨?_, ?_, ?_, ?_, ?_, ?_, y6⟩
    · rw [cfI_i, if_pos ⟨rfl, rfl⟩, y0]
      rfl
    · rw [(s (1, 0, 0) (by decide)).1]
      exact y1
    · rw [(s (2, 0, 0) (by decide)).1]
      exact y2
    · rw [(s (3, 0, 0) (by decide)).1]
      exact y3
    · rw [(s (4, 0, 0) (by decide)).1]
      exact y4
    · rw [(s (5, 0, 0) (by decide)).1]
      exact y5
  · exact x4.fr ((s (1, 0, 0) (by decide)).1) rfl (fun j _ => by unfold kf; rw [(s (21, j, 0) (by show ¬ (21 = 0); omega)).1])
theorem gr_1 {S : CS} {p : MS × Int32} {o : Nat → Nat} {j : Nat} {b n : Int32} (C : Cpl S p.1) (hj : j < kC S) (ho : moth p.1 j = nI (o j) ∧ o j < 6) (hn : p.2 = b + n) : Cpl (cw1 S n j).1 (g1 o p j).1 ∧ (g1 o p j).2 = b + (cw1 S n j).2 := by
  unfold cw1 g1
  rw [cmay_eq C hj]
  by_cases h1 : cmay S j = true
  · have h4 : kf S j 6 = 1 := (of_decide_eq_true h1).1
    have cc := C.2.2.1.2.2.1 _ hj
    obtain ⟨q1, q2⟩ := cc.oth (cc.2.2.2.1.2.2.1 h4)
    have e : o j = cpv S j := by
      rw [ho.1, xn_inj (by omega) (by omega)] at q1
      exact q1
    rw [e, C.1.2.2.2.2.2.1]
    by_cases h2 : p.1.2.1 5 (cpv S j) ≠ 0
    · rw [if_pos ⟨h1, h2⟩, if_pos ⟨h1, h2⟩]
      exact ⟨C.pun hj h4, by rw [hn, Int32.add_assoc]⟩
    · rw [if_neg (fun z => h2 z.2), if_neg (fun z => h2 z.2)]
      exact ⟨C, hn⟩
  · rw [if_neg (fun z => h1 z.1), if_neg (fun z => h1 z.1)]
    exact ⟨C, hn⟩
theorem gr_i {o : Nat → Nat} {b : Int32} : ∀ (m : Nat) (S : CS) (p : MS × Int32) (n : Int32) (j : Nat), Cpl S p.1 → j + m = kC S → (∀ i, i < kC S → moth p.1 i = nI (o i) ∧ o i < 6) → p.2 = b + n → Cpl (cwi S n j m).1 (gin o p j m).1 ∧ (gin o p j m).2 = b + (cwi S n j m).2
  | 0, S, p, n, j, C, _, _, hn => ⟨C, hn⟩
  | m + 1, S, p, n, j, C, hm, ho, hn => by
    obtain ⟨q1, q2⟩ := gr_1 C (show j < kC S by omega) (ho j (by omega)) hn
    have w := cw1_w S n j
    have hk : kC (cw1 S n j).1 = kC S := by
      unfold kC
      rw [w.2]
    unfold cwi gin
    exact gr_i m _ _ _ (j + 1) q1 (by omega) (fun i hi => by rw [g1_m]; exact ho i (by omega)) q2
theorem gr_o {o : Nat → Nat} : ∀ (m : Nat) (S : CS) (p : MS × Int32) (n : Int32), Cpl S p.1 → (∀ i, i < kC S → moth p.1 i = nI (o i) ∧ o i < 6) → p.2 = n → Cpl (cgi S n m).1 (gout o (kC S) p m).1 ∧ (gout o (kC S) p m).2 = (cgi S n m).2
  | 0, S, p, n, C, _, hn => ⟨C, hn⟩
  | m + 1, S, p, n, C, ho, hn => by
    have q := gr_i (o := o) (b := n) (kC S) (cfI S (0, 0, 0) 0 (S.1 (0, 0, 0) 0 + 1)) (mF p.1 6 (p.1.1 6 + 1), p.2) 0 0 C.hgt (Nat.zero_add _) ho (by rw [Int32.add_zero]; exact hn)
    have w := cwi_w (kC S) (cfI S (0, 0, 0) 0 (S.1 (0, 0, 0) 0 + 1)) 0 0
    have hk : kC (cwi (cfI S (0, 0, 0) 0 (S.1 (0, 0, 0) 0 + 1)) 0 0 (kC S)).1 = kC S := by
      unfold kC
      rw [w.2]
      rfl
    unfold cgi gout
    have r := gr_o m _ (gin o (mF p.1 6 (p.1.1 6 + 1), p.2) 0 (kC S)) _ q.1 (fun i hi => by rw [gin_m]; exact ho i (by omega)) q.2
    rw [hk] at r
    exact r
theorem CC.anyo {S : CS} {A : MS} {j : Nat} (cc : CC S A j) : moth A j = nI (ck (moth A j)) ∧ ck (moth A j) < 6 := by
  obtain ⟨t1, t2⟩ := cc.1.two
  unfold moth mnode
  rw [cc.1.1, cc.1.2.1]
  split
  · unfold ck
    rw [xn_clamp (by omega)]
    exact ⟨rfl, t1⟩
  · unfold ck
    rw [xn_clamp (by omega)]
    exact ⟨rfl, t2⟩
theorem p_grow {S : CS} {A : MS} {n : Int32} (C : Cpl S A) : tGrow n = cd [9] (eGrow n) ∧ (eGrow n = none → Cpl (cgi S 0 (ck n)).1 (gout (fun j => ck (moth A j)) (kC S) (mF A 0 0, 0) (ck n)).1 ∧ (gout (fun j => ck (moth A j)) (kC S) (mF A 0 0, 0) (ck n)).2 = (cgi S 0 (ck n)).2) := by
  constructor
  · unfold tGrow eGrow
    split <;> rfl
  · intro _
    exact gr_o (ck n) S (mF A 0 0, 0) 0 (C.F0 0) (fun i hi => (C.2.2.1.2.2.1 i hi).anyo) rfl
theorem p_start : Cpl cS0 mInit := by
  have nc : ∀ j, ¬ j < kC cS0 := fun j h => Nat.not_lt_zero j h
  have np : ∀ j, ¬ j < kP cS0 := fun j h => Nat.not_lt_zero j h
  refine ⟨⟨rfl, rfl, rfl, rfl, rfl, rfl, fun p _ => ?_⟩, ⟨rfl, rfl, rfl, ?_⟩, ⟨rfl, by decide, fun j hj => absurd hj (nc j), fun j _ hj => ?_⟩, ⟨fun i hi => ?_, rfl⟩, ⟨rfl, by decide, fun j hj => absurd hj (np j), fun p _ _ => ⟨rfl, rfl, rfl, rfl, rfl⟩⟩, ?_, fun j hj => absurd hj (nc j)⟩
  · show 0 ≤ (0 : Int32).toInt ∧ (0 : Int32).toInt ≤ 10000 ∧ 0 ≤ (0 : Int32).toInt ∧ (0 : Int32).toInt ≤ 1000000
    decide
  · exact ⟨by decide, fun i j hi => absurd hi (Nat.not_lt_zero i)⟩
  · have : j = 0 ∨ j = 1 ∨ j = 2 ∨ j = 3 ∨ j = 4 ∨ j = 5 ∨ j = 6 ∨ j = 7 := by omega
    rcases this with rfl | rfl | rfl | rfl | rfl | rfl | rfl | rfl <;> exact ⟨rfl, rfl, rfl, rfl, rfl, rfl, rfl⟩
  · have : i = 0 ∨ i = 1 ∨ i = 2 ∨ i = 3 ∨ i = 4 ∨ i = 5 := by omega
    rcases this with rfl | rfl | rfl | rfl | rfl | rfl <;> decide
  · exact ⟨[], ⟨rfl, by decide, trivial⟩, rfl, by decide, trivial, fun e B' z => by cases z⟩
