/- Part 99c: class and model side by side: a payment goes on: turning round. -/
theorem Cpl.pmt {S S' : CS} {A A' : MS} {p : Nat} (C : Cpl S A) (hs : ∀ r : RO, (∀ k, 27 ≤ k → k ≤ 32 → r ≠ (k, p, 0)) → S'.1 r = S.1 r ∧ S'.2.1 r = S.2.1 r ∧ S'.2.2.1 r = S.2.2.1 r) (hz : S'.2.2.2 = S.2.2.2) (a : ak (fun _ => False) (fun k => 29 ≤ k ∧ k ≤ 41) A A') (h36 : ∀ i, i ≠ p → A'.2.2 36 i = A.2.2 36 i) (ha : ∀ k i, i ≠ p → 29 ≤ k → k ≤ 35 → A'.2.1 k i = A.2.1 k i) (hb : ∀ p' k i, p' ≠ p → 37 ≤ k → k ≤ 41 → i < 5 → A'.2.1 k (5 * p' + i) = A.2.1 k (5 * p' + i)) (hp : p < kP S) (y : YY S' A' p) : Cpl S' A' := by
  obtain ⟨x1, x2, x3, x4, x5, x6, x7⟩ := C
  have s : sk (fun k => 27 ≤ k ∧ k ≤ 32) S S' := fun r hr => hs r (fun k h1 h2 z => hr (by rw [z]; exact ⟨h1, h2⟩))
  have hC : kC S' = kC S := by
    unfold kC
    rw [hz]
  have hn : ∀ c, S'.2.2.2 (24, c, 0) 0 = S.2.2.2 (24, c, 0) 0 := fun c => by rw [hz]
  have hM : Mon S S' := mon_sk s (fun k h => by omega) (Nat.le_of_eq hC.symm) (fun c => Nat.le_of_eq (hn c).symm)
  refine ⟨x1.fr s a (fun k h => by omega) id (fun k h1 h2 => by omega), x2.fr s a (by decide) id (by decide), x3.all hC (a.1 7 id) (fun j => sk_chS s (fun k h1 h2 => by omega) hn j) (fun j => ak_chM a (fun k h1 h2 => by omega) j), x4.fr ((s (1, 0, 0) (by decide)).1) hC (fun j _ => by unfold kf; rw [(s (21, j, 0) (by show ¬ (27 ≤ 21 ∧ 21 ≤ 32); omega)).1]), ?_, x6.fr s a (fun k h1 h2 => by omega) ⟨id, id⟩ (by decide), x7.all hC (fun j => sk_chS s (fun k h1 h2 => by omega) hn j)⟩
  unfold XP
  rw [show kP S' = kP S by unfold kP; rw [hz], a.1 34 id]
  refine ⟨x5.1, x5.2.1, fun p' hp' => ?_, fun p' h1 h2 => ?_⟩
  · by_cases e : p' = p
    · subst e
      exact y
    · refine (x5.2.2.1 p' hp').fr hM (fun k h1 h2 => (hs (k, p', 0) (fun k' _ _ z => e (by injection z with z1 z2; injection z2))).1) (hs (27, p', 0) (fun k' _ _ z => e (by injection z with z1 z2; injection z2))).2.1 (hs (27, p', 0) (fun k' _ _ z => e (by injection z with z1 z2; injection z2))).2.2 (by rw [hz]) (fun k h1 h2 => ha k p' e h1 h2) (h36 p' e) (fun k i h1 h2 h3 => hb p' k i e h1 h2 h3)
  · have ne : p' ≠ p := by omega
    have q := x5.2.2.2 p' h1 h2
    unfold pfr at *
    rw [ha 29 p' ne (by decide) (by decide), ha 30 p' ne (by decide) (by decide), ha 31 p' ne (by decide) (by decide), ha 32 p' ne (by decide) (by decide), ha 33 p' ne (by decide) (by decide)]
    exact q
theorem cturn_same (S : CS) (p : Nat) (w : Int32) (r : RO) (h : ∀ k, 27 ≤ k → k ≤ 32 → r ≠ (k, p, 0)) : (cturn S p w).1 r = S.1 r ∧ (cturn S p w).2.1 r = S.2.1 r ∧ (cturn S p w).2.2.1 r = S.2.2.1 r := by
  have n := h 27 (by decide) (by decide)
  unfold cturn
  rw [cset_f, cset_g, cset_w, if_neg n, if_neg n, if_neg n]
  exact ⟨rfl, rfl, rfl⟩
theorem Cpl.turn {S : CS} {A : MS} {p : Nat} {w : Int32} (C : Cpl S A) (hp : p < kP S) (hw : w = 2 ∨ (w = 1 ∧ ∃ k, k < S.2.2.1 (6, 0, 0) 0 ∧ S.2.1 (7, 0, 0) k = S.2.1 (27, p, 0) 0)) : Cpl (cturn S p w) (mturn A p w) ∧ rturn A p w = (cturn S p w).1 (27, p, 0) 8 := by
  have y := C.2.2.2.2.1.2.2.1 p hp
  obtain ⟨⟨a1, a2, a3, a4, a5, a6, a7, a8⟩, ⟨b1, b2, b3, b4⟩, b5, b6, b7⟩ := y
  have f1 : (cturn S p w).1 (27, p, 0) = upd (upd (S.1 (27, p, 0)) 9 w) 8 (if S.2.2.1 (27, p, 0) 10 = 0 then 3 else w) := by
    unfold cturn
    rw [cset_f, if_pos rfl]
  have f2 : (cturn S p w).2.1 (27, p, 0) = S.2.1 (27, p, 0) := by
    unfold cturn
    rw [cset_g, if_pos rfl]
  have f3 : (cturn S p w).2.2.1 (27, p, 0) = (fun k => if k = 11 then S.2.2.1 (27, p, 0) 10 else S.2.2.1 (27, p, 0) k) := by
    unfold cturn
    rw [cset_w, if_pos rfl]
  have f4 : ∀ r : RO, r ≠ (27, p, 0) → (cturn S p w).1 r = S.1 r ∧ (cturn S p w).2.1 r = S.2.1 r ∧ (cturn S p w).2.2.1 r = S.2.2.1 r := fun r n => by
    unfold cturn
    rw [cset_f, cset_g, cset_w, if_neg n, if_neg n, if_neg n]
    exact ⟨rfl, rfl, rfl⟩
  have hr : rturn A p w = if S.2.2.1 (27, p, 0) 10 = 0 then 3 else w := by
    unfold rturn
    rw [a3]
    have : nI (S.2.2.1 (27, p, 0) 10) = 0 ↔ S.2.2.1 (27, p, 0) 10 = 0 := xn_inj (n := 0) (by omega) (by decide)
    by_cases e : S.2.2.1 (27, p, 0) 10 = 0
    · rw [if_pos (this.mpr e), if_pos e]
    · rw [if_neg (fun z => e (this.mp z)), if_neg e]
  refine ⟨?_, by rw [hr, f1]; rfl⟩
  refine C.pmt (p := p) (cturn_same S p w) rfl ?_ (fun _ _ => rfl) (fun k i hi _ _ => ?_) (fun p' k i hp' h1 h2 h3 => ?_) hp ?_
  · unfold mturn
    exact (((ak.refl _ _ A).I (by decide)).I (by decide)).I (by decide)
  · unfold mturn
    rw [mI_i, if_neg (fun z => hi z.2), mI_i, if_neg (fun z => hi z.2), mI_i, if_neg (fun z => hi z.2)]
  · unfold mturn
    rw [mI_i, if_neg (by omega), mI_i, if_neg (by omega), mI_i, if_neg (by omega)]
  · unfold YY
    rw [f1, f2, f3, (f4 (28, p, 0) (by simp)).1, (f4 (29, p, 0) (by simp)).1, (f4 (30, p, 0) (by simp)).1, (f4 (31, p, 0) (by simp)).1, (f4 (32, p, 0) (by simp)).1, (f4 (6, 0, 0) (by simp)).2.2, (f4 (7, 0, 0) (by simp)).2.1]
    have hu : ∀ i, i ≠ 8 → i ≠ 9 → upd (upd (S.1 (27, p, 0)) 9 w) 8 (if S.2.2.1 (27, p, 0) 10 = 0 then 3 else w) i = S.1 (27, p, 0) i := fun i h1 h2 => by
      unfold upd
      rw [if_neg h1, if_neg h2]
    have hu8 : upd (upd (S.1 (27, p, 0)) 9 w) 8 (if S.2.2.1 (27, p, 0) 10 = 0 then 3 else w) 8 = (if S.2.2.1 (27, p, 0) 10 = 0 then 3 else w) := rfl
    have hu9 : upd (upd (S.1 (27, p, 0)) 9 w) 8 (if S.2.2.1 (27, p, 0) 10 = 0 then 3 else w) 9 = w := rfl
    have ho : ∀ k i, k ≠ 29 → k ≠ 30 → k ≠ 32 → (mturn A p w).2.1 k i = A.2.1 k i := fun k i h1 h2 h3 => by
      unfold mturn
      rw [mI_i, if_neg (fun z => h1 z.1), mI_i, if_neg (fun z => h3 z.1), mI_i, if_neg (fun z => h2 z.1)]
    rw [hu8, hu9, hu 12 (by decide) (by decide), ho 31 p (by decide) (by decide) (by decide), ho 33 p (by decide) (by decide) (by decide), ho 34 p (by decide) (by decide) (by decide), ho 35 p (by decide) (by decide) (by decide)]
    refine ⟨⟨?_, ?_, a3, ?_, a5, a6, a7, a8⟩, ⟨b1, b2, b3, Nat.le_refl _⟩, ?_, fun z => ?_, fun i hi => ?_⟩
    · unfold mturn
      rw [mI_i, if_pos ⟨rfl, rfl⟩]
      exact hr
    · unfold mturn
      rw [mI_i, if_neg (by simp), mI_i, if_neg (by simp), mI_i, if_pos ⟨rfl, rfl⟩]
    · unfold mturn
      rw [mI_i, if_neg (by simp), mI_i, if_pos ⟨rfl, rfl⟩]
      exact a3
    · by_cases e : S.2.2.1 (27, p, 0) 10 = 0
      · rw [if_pos e]
        exact Or.inr (Or.inl rfl)
      · rw [if_neg e]
        refine Or.inr (Or.inr ⟨?_, ?_⟩)
        · rcases hw with z | z
          · exact Or.inr z
          · exact Or.inl z.1
        · show 1 ≤ S.2.2.1 (27, p, 0) 10
          omega
    · rcases hw with y | y
      · rw [y] at z
        exact absurd z (by decide)
      · exact y.2
    · obtain ⟨c, v, z1, z2, z3, z4, z5, z6, z7, z8, z9, z10⟩ := b7 i hi
      rw [ho 37 _ (by decide) (by decide) (by decide), ho 38 _ (by decide) (by decide) (by decide), ho 39 _ (by decide) (by decide) (by decide), ho 40 _ (by decide) (by decide) (by decide), ho 41 _ (by decide) (by decide) (by decide)]
      refine ⟨c, v, z1, ?_, z3, z4, z5, z6, z7, z8, z9, fun hm' => ?_⟩
      · unfold kw
        rw [(f4 (21, c, 0) (by simp)).2.2]
        exact z2
      · obtain ⟨q, w1, w2, w3, w4, w5⟩ := z10 hm'
        refine ⟨q, w1, w2, w3, ?_, ?_⟩
        · unfold kp
          rw [(f4 (26, c, q) (by simp)).1]
          exact w4
        · rw [(f4 (26, c, q) (by simp)).2.1]
          exact w5
