/- Part 99e: class and model side by side: a payment goes on, the end. -/
theorem p_turn {S : CS} {A : MS} {p k c l s q : Nat} (C : Cpl S A) (hp : p < kP S) (hl : S.2.2.2 (27, p, 0) 0 ≤ S.2.2.1 (27, p, 0) 10) : Cpl (cturn S p (if cknows S (nI (S.2.2.1 (27, p, 0) 0)) (S.2.1 (27, p, 0) 0) = true then 1 else 2)) (mfw (mF A 0 0) p k c l s q (S.2.2.1 (6, 0, 0) 0)).2 ∧ (mfw (mF A 0 0) p k c l s q (S.2.2.1 (6, 0, 0) 0)).1 = (cturn S p (if cknows S (nI (S.2.2.1 (27, p, 0) 0)) (S.2.1 (27, p, 0) 0) = true then 1 else 2)).1 (27, p, 0) 8 ∧ (mfw (mF A 0 0) p k c l s q (S.2.2.1 (6, 0, 0) 0)).2.1 0 = 0 := by
  have C0 := C.F0 0
  obtain ⟨⟨a1, a2, a3, a4, a5, a6, a7, a8⟩, ⟨b1, b2, b3, b4⟩, b5, b6, b7⟩ := C0.2.2.2.2.1.2.2.1 p hp
  have e : (mF A 0 0).2.1 31 p = (mF A 0 0).2.1 34 p := by
    rw [a3, a6, show S.2.2.1 (27, p, 0) 10 = S.2.2.2 (27, p, 0) 0 by omega]
  unfold mfw
  rw [if_pos e, a7, a8, C0.2.1.knows]
  by_cases h : cknows S (nI (S.2.2.1 (27, p, 0) 0)) (S.2.1 (27, p, 0) 0) = true
  · rw [if_pos h]
    obtain ⟨t1, t2⟩ := C0.turn (w := 1) hp (Or.inr ⟨rfl, cknows_of h⟩)
    exact ⟨t1, t2, rfl⟩
  · rw [if_neg h]
    obtain ⟨t1, t2⟩ := C0.turn (w := 2) hp (Or.inl rfl)
    exact ⟨t1, t2, rfl⟩
theorem p_fwd {S : CS} {A : MS} {p i j v r : Nat} (C : Cpl S A) (hp : p < kP S) (h8 : S.1 (27, p, 0) 8 = 0) (hi : S.2.2.1 (27, p, 0) 10 = i) (hl : i < S.2.2.2 (27, p, 0) 0) (hj : S.1 (28, p, 0) i = nI j) (hj2 : j < kC S) (hv : S.1 (29, p, 0) i = nI v) (hr : r < 2) (hvr : v = kw S j r) :
    (eFwd S p i j = some 10 → mfw (mF A 0 0) p i j (kw S j 5) r (kn S j) (S.2.2.1 (6, 0, 0) 0) = (0, mF (mF A 0 0) 0 2)) ∧
    (eFwd S p i j = none → cfok S p i j = false → Cpl (cturn S p 2) (mfw (mF A 0 0) p i j (kw S j 5) r (kn S j) (S.2.2.1 (6, 0, 0) 0)).2 ∧ (mfw (mF A 0 0) p i j (kw S j 5) r (kn S j) (S.2.2.1 (6, 0, 0) 0)).1 = (cturn S p 2).1 (27, p, 0) 8 ∧ (mfw (mF A 0 0) p i j (kw S j 5) r (kn S j) (S.2.2.1 (6, 0, 0) 0)).2.1 0 = 0) ∧
    (eFwd S p i j = none → cfok S p i j = true → ∀ c0 mo, Cpl (cfw1 S p i j v c0 mo) (mfw (mF A 0 0) p i j (kw S j 5) r (kn S j) (S.2.2.1 (6, 0, 0) 0)).2 ∧ (mfw (mF A 0 0) p i j (kw S j 5) r (kn S j) (S.2.2.1 (6, 0, 0) 0)).1 = (cfw1 S p i j v c0 mo).1 (27, p, 0) 8 ∧ (mfw (mF A 0 0) p i j (kw S j 5) r (kn S j) (S.2.2.1 (6, 0, 0) 0)).2.1 0 = 0) := by
  have C0 := C.F0 0
  have cc := C0.2.2.1.2.2.1 _ hj2
  have hL := cc.2.1.2.1
  obtain ⟨⟨a1, a2, a3, a4, a5, a6, a7, a8⟩, ⟨b1, b2, b3, b4⟩, b5, b6, b7⟩ := C0.2.2.2.2.1.2.2.1 p hp
  obtain ⟨c, v', z1, z2, z3, z4, z5, z6, z7, z8, z9, z10⟩ := b7 i hl
  have e : ¬ (mF A 0 0).2.1 31 p = (mF A 0 0).2.1 34 p := by
    rw [a3, a6, xn_inj (by omega) (by omega)]
    omega
  have hok : (mcarr (mF A 0 0) j (kw S j 5) r ((mF A 0 0).2.1 38 (5 * p + i)).toInt64 = false ∨ (mF A 0 0).2.1 39 (5 * p + i) ≤ (mF A 0 0).1 6) ↔ cfok S p i j = false := by
    rw [z7, z9, car_eq hj2 C0 hr, ← C0.1.1]
    unfold cfok
    rw [hv, hvr, Bool.and_eq_false_iff, decide_eq_false_iff_not, le_nlt]
  unfold mfw eFwd
  rw [if_neg e]
  cases hc : cfok S p i j with
  | false =>
    rw [if_pos (hok.mpr hc)]
    obtain ⟨t1, t2⟩ := C0.turn (w := 2) hp (Or.inl rfl)
    refine ⟨fun z => ?_, fun _ _ => ⟨t1, t2, rfl⟩, fun _ z => by cases z⟩
    rw [if_neg (fun y => by cases y.1)] at z
    cases z
  | true =>
    have hno : ¬ (mcarr (mF A 0 0) j (kw S j 5) r ((mF A 0 0).2.1 38 (5 * p + i)).toInt64 = false ∨ (mF A 0 0).2.1 39 (5 * p + i) ≤ (mF A 0 0).1 6) := fun z => by
      rw [hok.mp z] at hc
      cases hc
    rw [if_neg hno]
    have hrm := cc.room
    by_cases hR : nI (S.2.2.1 (21, j, 0) 5) < 63
    · rw [if_neg (show ¬ (true = true ∧ ¬ nI (S.2.2.1 (21, j, 0) 5) < 63) from fun y => y.2 hR), if_neg (show ¬ ¬ (mF A 0 0).2.1 9 j + 1 < 64 from fun y => y (hrm.mpr hR))]
      refine ⟨fun z => (by cases z), fun _ z => (by cases z), fun _ _ c0 mo => ?_⟩
      · have hL63 : kw S j 5 < 63 := (xn_lt (by omega) (by decide)).mp hR
        obtain ⟨q1, q2⟩ := C0.fwd hp h8 hi hl hj hj2 hv hr hvr hc hL63 c0 mo
        exact ⟨q1, q2.symm, rfl⟩
    · rw [if_pos (show true = true ∧ ¬ nI (S.2.2.1 (21, j, 0) 5) < 63 from ⟨rfl, hR⟩), if_pos (show ¬ (mF A 0 0).2.1 9 j + 1 < 64 from fun y => hR (hrm.mp y))]
      exact ⟨fun _ => rfl, fun z => (by cases z), fun z => (by cases z)⟩
/-- the ended promises' number may be written first or last -/
theorem mI_cm (A : MS) {k i k' i' : Nat} (x y : Int32) (h : k ≠ k') : mI (mI A k i x) k' i' y = mI (mI A k' i' y) k i x := by
  refine Prod.ext rfl (Prod.ext (funext (fun a => funext (fun b => ?_))) rfl)
  rw [mI_i, mI_i, mI_i, mI_i]
  by_cases e1 : a = k' ∧ b = i'
  · rw [if_pos e1, if_neg (fun z => h (z.1.symm.trans e1.1)), if_pos e1]
  · rw [if_neg e1, if_neg e1]
theorem mJ_cm (A : MS) (k i k' i' : Nat) (x : Int32) (y : Int64) : mJ (mI A k i x) k' i' y = mI (mJ A k' i' y) k i x := rfl
theorem mF_cm (A : MS) (k i k' : Nat) (x : Int32) (y : Int32) : mF (mI A k i x) k' y = mI (mF A k' y) k i x := rfl
theorem mnext33 (A : MS) (p : Nat) (x : Int32) (j l : Nat) (sd by0 : Int32) (set : Int64) : mnext (mI A 33 p x) j l sd by0 set = mI (mnext A j l sd by0 set) 33 p x := by
  unfold mnext
  simp only
  have e : ∀ B : MS, ∀ q, (mI B 33 p x).2.1 10 q = B.2.1 10 q := fun B q => by rw [mI_i, if_neg (by simp)]
  rw [mI_cm A x _ (by decide), e, mI_cm _ x _ (by decide), e, mI_cm _ x _ (by decide), mJ_cm]
theorem mlearn33 (A : MS) (p : Nat) (x : Int32) (K : Nat) (k : Int64) (w : Int32) : mlearn (mI A 33 p x) K k w = mI (mlearn A K k w) 33 p x := by
  unfold mlearn
  rw [mI_j]
  cases mfind (A.2.2 23) k K with
  | some j =>
    simp only
    rw [mI_i, if_neg (by simp), mI_cm A x _ (by decide)]
  | none =>
    simp only
    rw [mJ_cm, mI_cm _ x _ (by decide), mF_cm, mI_cm _ x _ (by decide)]
theorem mdrop33 (A : MS) (p : Nat) (x : Int32) (j l q : Nat) : mdrop (mI A 33 p x) j l q = mI (mdrop A j l q) 33 p x := by
  have e : ∀ k i, k ≠ 33 → (mI A 33 p x).2.1 k i = A.2.1 k i := fun k i h => by rw [mI_i, if_neg (fun z => h z.1)]
  unfold mdrop mdel
  rw [e 14 _ (by decide), e 15 _ (by decide), mI_j]
  exact mnext33 _ _ _ _ _ _ _ _
theorem mkeep33 (A : MS) (p : Nat) (x : Int32) (j l q K : Nat) : mkeep (mI A 33 p x) j l q K = mI (mkeep A j l q K) 33 p x := by
  have e : ∀ k i, k ≠ 33 → (mI A 33 p x).2.1 k i = A.2.1 k i := fun k i h => by rw [mI_i, if_neg (fun z => h z.1)]
  unfold mkeep mkept mdel mnode
  rw [e 14 _ (by decide), e 15 _ (by decide), e 6 _ (by decide), e 7 _ (by decide), mI_j]
  rw [mnext33, mlearn33]
theorem mI_id (A : MS) (k i : Nat) : mI A k i (A.2.1 k i) = A := by
  refine Prod.ext rfl (Prod.ext (funext (fun a => funext (fun b => ?_))) rfl)
  rw [mI_i]
  by_cases e : a = k ∧ b = i
  · rw [if_pos e, e.1, e.2]
  · rw [if_neg e]
theorem Cpl.goback {S T : CS} {A1 : MS} {p i : Nat} {en : Int32} (C : Cpl T A1) (hp : p < kP T) (e1 : T.1 (27, p, 0) = S.1 (27, p, 0)) (e2 : T.2.1 (27, p, 0) = S.2.1 (27, p, 0)) (e3 : T.2.2.1 (27, p, 0) = S.2.2.1 (27, p, 0)) (hi : S.2.2.1 (27, p, 0) 11 = i + 1) (hst : S.1 (27, p, 0) 8 = 1 ∨ S.1 (27, p, 0) 8 = 2) : Cpl (cgb S T p i en) (bback (mI A1 33 p en) p) ∧ (bback (mI A1 33 p en) p).2.1 29 p = if i = 0 then 3 else S.1 (27, p, 0) 8 := by
  obtain ⟨⟨a1, a2, a3, a4, a5, a6, a7, a8⟩, ⟨b1, b2, b3, b4⟩, b5, b6, b7⟩ := C.2.2.2.2.1.2.2.1 p hp
  rw [e1] at a1 a2 a5 b5 b6
  rw [e2] at a8 b6
  rw [e3] at a3 a4 a7 b2 b3 b4 b5
  have g32 : (mI A1 33 p en).2.1 32 p = nI (i + 1) := by
    rw [mI_i, if_neg (by simp), a4, hi]
  have eB : bback (mI A1 33 p en) p = mI (mI (mI A1 33 p en) 32 p (nI i)) 29 p (if i = 0 then 3 else S.1 (27, p, 0) 8) := by
    have q1 : (mI (mI A1 33 p en) 32 p (nI i)).2.1 32 p = nI i := by rw [mI_i, if_pos ⟨rfl, rfl⟩]
    have q2 : (mI (mI A1 33 p en) 32 p (nI i)).2.1 29 p = S.1 (27, p, 0) 8 := by rw [mI_i, if_neg (by simp), mI_i, if_neg (by simp), a1]
    unfold bback
    simp only
    rw [g32, xn_pred, q1, q2]
    have : nI i = 0 ↔ i = 0 := xn_inj (n := 0) (by omega) (by decide)
    by_cases e : i = 0
    · rw [if_pos (this.mpr e), if_pos e]
    · rw [if_neg (fun z => e (this.mp z)), if_neg e]
  rw [eB]
  refine ⟨?_, by rw [mI_i, if_pos ⟨rfl, rfl⟩]⟩
  have hA : ∀ k q, (mI (mI (mI A1 33 p en) 32 p (nI i)) 29 p (if i = 0 then 3 else S.1 (27, p, 0) 8)).2.1 k q = if k = 29 ∧ q = p then (if i = 0 then 3 else S.1 (27, p, 0) 8) else if k = 32 ∧ q = p then nI i else if k = 33 ∧ q = p then en else A1.2.1 k q := fun k q => by rw [mI_i, mI_i, mI_i]
  have f1 : (cgb S T p i en).1 (27, p, 0) = upd (upd (S.1 (27, p, 0)) 12 en) 8 (if i = 0 then 3 else S.1 (27, p, 0) 8) := by
    unfold cgb
    rw [cset_f, if_pos rfl]
  have f2 : (cgb S T p i en).2.1 (27, p, 0) = S.2.1 (27, p, 0) := by
    unfold cgb
    rw [cset_g, if_pos rfl]
  have f3 : (cgb S T p i en).2.2.1 (27, p, 0) = (fun k => if k = 11 then i else S.2.2.1 (27, p, 0) k) := by
    unfold cgb
    rw [cset_w, if_pos rfl]
  have f4 : ∀ r : RO, r ≠ (27, p, 0) → (cgb S T p i en).1 r = T.1 r ∧ (cgb S T p i en).2.1 r = T.2.1 r ∧ (cgb S T p i en).2.2.1 r = T.2.2.1 r := fun r n => by
    unfold cgb
    rw [cset_f, cset_g, cset_w, if_neg n, if_neg n, if_neg n]
    exact ⟨rfl, rfl, rfl⟩
  refine C.pmt (p := p) (fun r h => f4 r (h 27 (by decide) (by decide))) rfl ((((ak.refl _ _ A1).I (by decide)).I (by decide)).I (by decide)) (fun _ _ => rfl) (fun k q hq h1 h2 => ?_) (fun p' k q hp' h1 h2 h3 => ?_) hp ?_
  · rw [hA, if_neg (fun z => hq z.2), if_neg (fun z => hq z.2), if_neg (fun z => hq z.2)]
  · rw [hA, if_neg (by omega), if_neg (by omega), if_neg (by omega)]
  · unfold YY
    rw [f1, f2, f3, (f4 (28, p, 0) (by simp)).1, (f4 (29, p, 0) (by simp)).1, (f4 (30, p, 0) (by simp)).1, (f4 (31, p, 0) (by simp)).1, (f4 (32, p, 0) (by simp)).1, (f4 (6, 0, 0) (by simp)).2.2, (f4 (7, 0, 0) (by simp)).2.1]
    have hu : ∀ x, x ≠ 8 → x ≠ 12 → upd (upd (S.1 (27, p, 0)) 12 en) 8 (if i = 0 then 3 else S.1 (27, p, 0) 8) x = S.1 (27, p, 0) x := fun x h1 h2 => by
      unfold upd
      rw [if_neg h1, if_neg h2]
    have hu8 : upd (upd (S.1 (27, p, 0)) 12 en) 8 (if i = 0 then 3 else S.1 (27, p, 0) 8) 8 = (if i = 0 then 3 else S.1 (27, p, 0) 8) := rfl
    have hu12 : upd (upd (S.1 (27, p, 0)) 12 en) 8 (if i = 0 then 3 else S.1 (27, p, 0) 8) 12 = en := rfl
    have ho : ∀ k q, k ≠ 29 → k ≠ 32 → k ≠ 33 → (mI (mI (mI A1 33 p en) 32 p (nI i)) 29 p (if i = 0 then 3 else S.1 (27, p, 0) 8)).2.1 k q = A1.2.1 k q := fun k q h1 h2 h3 => by
      rw [hA, if_neg (fun z => h1 z.1), if_neg (fun z => h2 z.1), if_neg (fun z => h3 z.1)]
    have v29 := (hA 29 p).trans (if_pos ⟨rfl, rfl⟩)
    have v32 := (hA 32 p).trans ((if_neg (show ¬ (32 = 29 ∧ p = p) by simp)).trans (if_pos ⟨rfl, rfl⟩))
    have v33 := (hA 33 p).trans ((if_neg (show ¬ (33 = 29 ∧ p = p) by simp)).trans ((if_neg (show ¬ (33 = 32 ∧ p = p) by simp)).trans (if_pos ⟨rfl, rfl⟩)))
    rw [hu8, hu12, hu 9 (by decide) (by decide), ho 30 p (by decide) (by decide) (by decide), ho 31 p (by decide) (by decide) (by decide), ho 34 p (by decide) (by decide) (by decide), ho 35 p (by decide) (by decide) (by decide), v29, v32, v33]
    refine ⟨⟨rfl, a2, a3, rfl, rfl, a6, a7, a8⟩, ⟨b1, b2, b3, ?_⟩, ?_, b6, fun x hx => ?_⟩
    · show i ≤ S.2.2.1 (27, p, 0) 10
      omega
    · by_cases e : i = 0
      · rw [if_pos e]
        exact Or.inr (Or.inl rfl)
      · rw [if_neg e]
        exact Or.inr (Or.inr ⟨hst, by show 1 ≤ i; omega⟩)
    · obtain ⟨c, v, z1, z2, z3, z4, z5, z6, z7, z8, z9, z10⟩ := b7 x hx
      rw [ho 37 _ (by decide) (by decide) (by decide), ho 38 _ (by decide) (by decide) (by decide), ho 39 _ (by decide) (by decide) (by decide), ho 40 _ (by decide) (by decide) (by decide), ho 41 _ (by decide) (by decide) (by decide)]
      refine ⟨c, v, z1, ?_, z3, z4, z5, z6, z7, z8, z9, fun hm' => ?_⟩
      · unfold kw
        rw [(f4 (21, c, 0) (by simp)).2.2]
        exact z2
      · obtain ⟨q, w1, w2, w3, w4, w5⟩ := z10 (by rw [e3]; exact hm')
        refine ⟨q, w1, w2, w3, ?_, ?_⟩
        · unfold kp
          rw [(f4 (26, c, q) (by simp)).1]
          exact w4
        · rw [(f4 (26, c, q) (by simp)).2.1, ← e2]
          exact w5
