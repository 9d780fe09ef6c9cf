/- Part 66: a list's new array; a list's new element. -/
/-- the three kinds of lists: the list, its array, its elements -/
def isL (z : RO → Nat → Nat) (lr br : RO) (el : Nat → RO) : Prop := (lr = (9, 0, 0) ∧ br = (19, 0, 0) ∧ el = fun i => (21, i, 0)) ∨ (lr = (10, 0, 0) ∧ br = (20, 0, 0) ∧ el = fun i => (27, i, 0)) ∨ ∃ j, j < z (9, 0, 0) 0 ∧ lr = (24, j, 0) ∧ br = (25, j, 0) ∧ el = fun i => (26, j, i)
def zset (z : RO → Nat → Nat) (lr : RO) (n c : Nat) : RO → Nat → Nat := fun q => if q = lr then (fun i => if i = 0 then n else if i = 1 then c else z lr i) else z q
theorem zset_0 (z : RO → Nat → Nat) (lr : RO) (n c : Nat) : zset z lr n c lr 0 = n := by simp [zset]
theorem zset_1 (z : RO → Nat → Nat) (lr : RO) (n c : Nat) : zset z lr n c lr 1 = c := by simp [zset]
theorem zset_ne {z : RO → Nat → Nat} {lr q : RO} {n c : Nat} (h : q ≠ lr) : zset z lr n c q = z q := by simp [zset, h]
/-- the state with another size of a list -/
def czl (S : CS) (lr : RO) (n c : Nat) (mo : Int32) : CS := (fun q => if q = lr then upd (S.1 lr) 0 mo else S.1 q, S.2.1, S.2.2.1, zset S.2.2.2 lr n c)
section X66
variable {E : RO → Nat} {dc : Nat} {S : CS} {K : Nat → Option XC} {h : XH} {z : RO → Nat → Nat} {lr br : RO} {el : Nat → RO}
theorem isL.v (hL : isL z lr br el) : kV z lr := by
  rcases hL with ⟨rfl, -, -⟩ | ⟨rfl, -, -⟩ | ⟨j, hj, rfl, -, -⟩
  · exact kV_9
  · exact kV_10
  · exact ⟨hj, rfl⟩
theorem isL.b (hL : isL z lr br el) (hc : 0 < z lr 1) : kV z br := by
  rcases hL with ⟨rfl, rfl, -⟩ | ⟨rfl, rfl, -⟩ | ⟨j, hj, rfl, rfl, -⟩
  · exact ⟨rfl, hc⟩
  · exact ⟨rfl, hc⟩
  · exact ⟨hj, rfl, hc⟩
theorem isL.ne (hL : isL z lr br el) : br ≠ lr := by
  rcases hL with ⟨rfl, rfl, -⟩ | ⟨rfl, rfl, -⟩ | ⟨j, hj, rfl, rfl, -⟩ <;> (intro e; cases e)
theorem isL.cl {f : Nat → Int32} {g : Nat → Int64} {w : Nat → Nat} {z2 : RO → Nat → Nat} (hL : isL z lr br el) : kcell E dc z2 lr f g w = kLst (z2 lr) dc (E br) (f 0) := by
  rcases hL with ⟨rfl, rfl, -⟩ | ⟨rfl, rfl, -⟩ | ⟨j, hj, rfl, rfl, -⟩ <;> rfl
theorem isL.cb {f : Nat → Int32} {g : Nat → Int64} {w : Nat → Nat} {z2 : RO → Nat → Nat} (hL : isL z lr br el) : kcell E dc z2 br f g w = kArr (z2 lr) (fun i => E (el i)) := by
  rcases hL with ⟨rfl, rfl, rfl⟩ | ⟨rfl, rfl, rfl⟩ | ⟨j, hj, rfl, rfl, rfl⟩ <;> rfl
theorem isL.cap (hL : isL z lr br el) (hW : kW z) : z lr 0 ≤ z lr 1 ∧ capOK (z lr 1) := by
  rcases hL with ⟨rfl, -, -⟩ | ⟨rfl, -, -⟩ | ⟨j, hj, rfl, -, -⟩
  · exact hW.1
  · exact hW.2.1
  · exact hW.2.2 j hj
/-- what a change of a list's room leaves -/
theorem isL.vc {c : Nat} (hL : isL z lr br el) (hc : 0 < c) {q : RO} : kV (zset z lr (z lr 0) c) q ↔ kV z q ∨ q = br := by
  obtain ⟨k, i, l⟩ := q
  have e0 : ∀ q, zset z lr (z lr 0) c q 0 = z q 0 := fun q => by
    by_cases e : q = lr
    · rw [e, zset_0]
    · rw [zset_ne e]
  rw [kV_iff, kV_iff]
  simp only [e0]
  rcases hL with ⟨rfl, rfl, -⟩ | ⟨rfl, rfl, -⟩ | ⟨j, hj, rfl, rfl, -⟩
  · rw [zset_1, zset_ne (q := (10, 0, 0)) (by decide), zset_ne (q := (24, i, 0)) (fun e => by cases e)]
    constructor
    · rintro (q | ⟨q1, q2, q3, q4⟩ | q | q | q | q | q)
      · exact Or.inl (Or.inl q)
      · exact Or.inr (by rw [q1, q2, q3])
      · exact Or.inl (Or.inr (Or.inr (Or.inl q)))
      · exact Or.inl (Or.inr (Or.inr (Or.inr (Or.inl q))))
      · exact Or.inl (Or.inr (Or.inr (Or.inr (Or.inr (Or.inl q)))))
      · exact Or.inl (Or.inr (Or.inr (Or.inr (Or.inr (Or.inr (Or.inl q))))))
      · exact Or.inl (Or.inr (Or.inr (Or.inr (Or.inr (Or.inr (Or.inr q))))))
    · rintro ((q | ⟨q1, q2, q3, q4⟩ | q | q | q | q | q) | e)
      · exact Or.inl q
      · exact Or.inr (Or.inl ⟨q1, q2, q3, hc⟩)
      · exact Or.inr (Or.inr (Or.inl q))
      · exact Or.inr (Or.inr (Or.inr (Or.inl q)))
      · exact Or.inr (Or.inr (Or.inr (Or.inr (Or.inl q))))
      · exact Or.inr (Or.inr (Or.inr (Or.inr (Or.inr (Or.inl q)))))
      · exact Or.inr (Or.inr (Or.inr (Or.inr (Or.inr (Or.inr q)))))
      · cases e
        exact Or.inr (Or.inl ⟨rfl, rfl, rfl, hc⟩)
  · rw [zset_1, zset_ne (q := (9, 0, 0)) (by decide), zset_ne (q := (24, i, 0)) (fun e => by cases e)]
    constructor
    · rintro (q | q | ⟨q1, q2, q3, q4⟩ | q | q | q | q)
      · exact Or.inl (Or.inl q)
      · exact Or.inl (Or.inr (Or.inl q))
      · exact Or.inr (by rw [q1, q2, q3])
      · exact Or.inl (Or.inr (Or.inr (Or.inr (Or.inl q))))
      · exact Or.inl (Or.inr (Or.inr (Or.inr (Or.inr (Or.inl q)))))
      · exact Or.inl (Or.inr (Or.inr (Or.inr (Or.inr (Or.inr (Or.inl q))))))
      · exact Or.inl (Or.inr (Or.inr (Or.inr (Or.inr (Or.inr (Or.inr q))))))
    · rintro ((q | q | ⟨q1, q2, q3, q4⟩ | q | q | q | q) | e)
      · exact Or.inl q
      · exact Or.inr (Or.inl q)
      · exact Or.inr (Or.inr (Or.inl ⟨q1, q2, q3, hc⟩))
      · exact Or.inr (Or.inr (Or.inr (Or.inl q)))
      · exact Or.inr (Or.inr (Or.inr (Or.inr (Or.inl q))))
      · exact Or.inr (Or.inr (Or.inr (Or.inr (Or.inr (Or.inl q)))))
      · exact Or.inr (Or.inr (Or.inr (Or.inr (Or.inr (Or.inr q)))))
      · cases e
        exact Or.inr (Or.inr (Or.inl ⟨rfl, rfl, rfl, hc⟩))
  · rw [zset_ne (q := (9, 0, 0)) (fun e => by cases e), zset_ne (q := (10, 0, 0)) (fun e => by cases e)]
    constructor
    · rintro (q | q | q | q | ⟨q1, q2, q3, q4⟩ | q | q)
      · exact Or.inl (Or.inl q)
      · exact Or.inl (Or.inr (Or.inl q))
      · exact Or.inl (Or.inr (Or.inr (Or.inl q)))
      · exact Or.inl (Or.inr (Or.inr (Or.inr (Or.inl q))))
      · by_cases hi : i = j
        · exact Or.inr (by rw [q1, q3, hi])
        · rw [zset_ne (fun e => hi (by cases e; rfl))] at q4
          exact Or.inl (Or.inr (Or.inr (Or.inr (Or.inr (Or.inl ⟨q1, q2, q3, q4⟩)))))
      · exact Or.inl (Or.inr (Or.inr (Or.inr (Or.inr (Or.inr (Or.inl q))))))
      · exact Or.inl (Or.inr (Or.inr (Or.inr (Or.inr (Or.inr (Or.inr q))))))
    · rintro ((q | q | q | q | ⟨q1, q2, q3, q4⟩ | q | q) | e)
      · exact Or.inl q
      · exact Or.inr (Or.inl q)
      · exact Or.inr (Or.inr (Or.inl q))
      · exact Or.inr (Or.inr (Or.inr (Or.inl q)))
      · refine Or.inr (Or.inr (Or.inr (Or.inr (Or.inl ⟨q1, q2, q3, ?_⟩))))
        by_cases hi : i = j
        · rw [hi, zset_1]
          exact hc
        · rw [zset_ne (fun e => hi (by cases e; rfl))]
          exact q4
      · exact Or.inr (Or.inr (Or.inr (Or.inr (Or.inr (Or.inl q)))))
      · exact Or.inr (Or.inr (Or.inr (Or.inr (Or.inr (Or.inr q)))))
      · cases e
        exact Or.inr (Or.inr (Or.inr (Or.inr (Or.inl ⟨rfl, hj, rfl, by rw [zset_1]; exact hc⟩))))
/-- cells that don't look at the list's sizes -/
theorem isL.co {E' : RO → Nat} {n c : Nat} {f : Nat → Int32} {g : Nat → Int64} {w : Nat → Nat} {q : RO} (hL : isL z lr br el) (hq : kV z q) (n1 : q ≠ lr) (n2 : q ≠ br) (hE : ∀ p, kV z p → p ≠ br → E' p = E p) : kcell E' dc (zset z lr n c) q f g w = kcell E dc z q f g w := by
  obtain ⟨k, i, l⟩ := q
  have hv := (kV_iff z k i l).mp hq
  rw [kcell_z (z := z) (lr := lr) (fun p hp => zset_ne hp) ?_ ?_ ?_ ?_]
  · refine kcell_ext (fun p hp e1 e2 e3 => hE p hp ?_) (fun e y => hE _ ⟨rfl, y⟩ ?_) (fun e y => hE _ ⟨rfl, y⟩ ?_) (fun e y => hE _ ⟨?_, rfl, y⟩ ?_) hq
    · rcases hL with ⟨-, rfl, -⟩ | ⟨-, rfl, -⟩ | ⟨j, -, -, rfl, -⟩
      · exact fun t => e1 (by rw [t])
      · exact fun t => e2 (by rw [t])
      · exact fun t => e3 (by rw [t])
    · simp only at e
      rcases hL with ⟨rfl, rfl, -⟩ | ⟨rfl, rfl, -⟩ | ⟨j, hj, rfl, rfl, -⟩
      · exact absurd (by simp only [Prod.mk.injEq]; omega) n1
      · decide
      · exact fun t => by cases t
    · simp only at e
      rcases hL with ⟨rfl, rfl, -⟩ | ⟨rfl, rfl, -⟩ | ⟨j, hj, rfl, rfl, -⟩
      · decide
      · exact absurd (by simp only [Prod.mk.injEq]; omega) n1
      · exact fun t => by cases t
    · simp only at e
      show i < _
      omega
    · simp only at e
      rcases hL with ⟨rfl, rfl, -⟩ | ⟨rfl, rfl, -⟩ | ⟨j, hj, rfl, rfl, -⟩
      · exact fun t => by cases t
      · exact fun t => by cases t
      · exact fun t => n1 (by
          have t2 : i = j := congrArg (fun q : RO => q.2.1) t
          rw [e, t2, show l = 0 by omega])
  all_goals simp only
  · intro e t
    subst t
    rcases hL with ⟨-, rfl, -⟩ | ⟨t, -, -⟩ | ⟨j, hj, t, -, -⟩
    · rcases e with e | e
      · exact n1 (by simp only [Prod.mk.injEq]; omega)
      · exact n2 (by simp only [Prod.mk.injEq]; omega)
    · cases t
    · cases t
  · intro e t
    subst t
    rcases hL with ⟨t, -, -⟩ | ⟨-, rfl, -⟩ | ⟨j, hj, t, -, -⟩
    · cases t
    · rcases e with e | e
      · exact n1 (by simp only [Prod.mk.injEq]; omega)
      · exact n2 (by simp only [Prod.mk.injEq]; omega)
    · cases t
  · intro e t
    subst t
    rcases hL with ⟨t, -, -⟩ | ⟨t, -, -⟩ | ⟨j, hj, t, rfl, -⟩
    · cases t
    · cases t
    · cases t
      rcases e with e | e
      · exact n1 (by rw [e, show l = 0 by omega])
      · exact n2 (by rw [e, show l = 0 by omega])
  · intro e t
    subst t
    rcases hL with ⟨t, -, -⟩ | ⟨t, -, -⟩ | ⟨j, hj, t, -, -⟩ <;> cases t
theorem isL.kw {n c : Nat} (hL : isL z lr br el) (hW : kW z) (h9 : lr = (9, 0, 0) → n = z lr 0) (hn : n ≤ c) (hc : capOK c) : kW (zset z lr n c) := by
  obtain ⟨k1, k2, k3⟩ := hW
  rcases hL with ⟨rfl, -, -⟩ | ⟨rfl, -, -⟩ | ⟨j, hj, rfl, -, -⟩
  · obtain rfl := h9 rfl
    refine ⟨by rw [zset_0, zset_1]; exact ⟨hn, hc⟩, by rw [zset_ne (by decide)]; exact k2, fun i hi => ?_⟩
    rw [zset_0] at hi
    rw [zset_ne (fun e => by cases e)]
    exact k3 i hi
  · refine ⟨by rw [zset_ne (by decide)]; exact k1, by rw [zset_0, zset_1]; exact ⟨hn, hc⟩, fun i hi => ?_⟩
    rw [zset_ne (by decide)] at hi
    rw [zset_ne (fun e => by cases e)]
    exact k3 i hi
  · refine ⟨by rw [zset_ne (fun e => by cases e)]; exact k1, by rw [zset_ne (fun e => by cases e)]; exact k2, fun i hi => ?_⟩
    rw [zset_ne (fun e => by cases e)] at hi
    by_cases e : i = j
    · subst e
      rw [zset_0, zset_1]
      exact ⟨hn, hc⟩
    · rw [zset_ne (fun t => e (by cases t; rfl))]
      exact k3 i hi
/-- a list gets a new array -/
theorem Rep.regrow (R : Rep E dc S K h) (hL : isL S.2.2.2 lr br el) (hl : ∀ (a : Nat) (c : XC), xget h a = some c → a < h.1) {c n0 : Nat} (hn : S.2.2.2 lr 0 ≤ c) (hc0 : 0 < c) (hc : capOK c) (mo : Int32) :
    Rep (fun q => if q = br then h.1 else E q) dc (czl S lr (S.2.2.2 lr 0) c mo) K (xput (xnew h (kArr (zset S.2.2.2 lr (S.2.2.2 lr 0) c lr) (fun i => E (el i))) n0) (E lr) (kLst (zset S.2.2.2 lr (S.2.2.2 lr 0) c lr) dc h.1 mo)) := by
  have hne := hL.ne
  have hlr := hL.v
  have eL : (fun q => if q = br then h.1 else E q) lr = E lr := if_neg (Ne.symm hne)
  have eB : (fun q => if q = br then h.1 else E q) br = h.1 := if_pos rfl
  have lt : ∀ q, kV S.2.2.2 q → E q < h.1 := fun q hq => hl _ _ (R.1 q hq)
  have hel : (fun i => (fun q => if q = br then h.1 else E q) (el i)) = fun i => E (el i) := by
    funext i
    refine if_neg ?_
    rcases hL with ⟨-, rfl, rfl⟩ | ⟨-, rfl, rfl⟩ | ⟨j, -, -, rfl, rfl⟩ <;> (intro e; cases e)
  refine ⟨fun q hq => ?_, fun q q' hq hq' e => ?_, fun q c' hq => ?_, R.2.2.2.1, hL.kw R.2.2.2.2 (fun _ => rfl) hn hc⟩
  · by_cases q1 : q = br
    · rw [q1, eB, xput_ne (by have := lt lr hlr; omega), new_get, hL.cb, hel]
      rfl
    have eq : (fun q => if q = br then h.1 else E q) q = E q := if_neg q1
    by_cases q2 : q = lr
    · rw [q2, eL, xput_get, hL.cl, if_pos rfl]
      show _ = some (kLst _ dc h.1 ((if lr = lr then upd (S.1 lr) 0 mo else S.1 lr) 0))
      rw [if_pos rfl]
      rfl
    have hv := ((hL.vc hc0).mp hq).resolve_right q1
    rw [eq, xput_ne (fun e => q2 (R.2.1 _ _ hv hlr e)), xnew_ne (by have := lt q hv; omega), R.1 q hv]
    show _ = some (kcell _ dc (zset S.2.2.2 lr (S.2.2.2 lr 0) c) q (if q = lr then upd (S.1 lr) 0 mo else S.1 q) (S.2.1 q) (S.2.2.1 q))
    rw [if_neg q2, hL.co hv q2 q1 (fun p _ hp => if_neg hp)]
  · have hv := (hL.vc hc0).mp hq
    have hv' := (hL.vc hc0).mp hq'
    simp only at e
    by_cases q1 : q = br
    · by_cases q2 : q' = br
      · rw [q1, q2]
      · rw [if_pos q1, if_neg q2] at e
        have := lt q' (hv'.resolve_right q2)
        omega
    · rw [if_neg q1] at e
      by_cases q2 : q' = br
      · rw [if_pos q2] at e
        have := lt q (hv.resolve_right q1)
        omega
      · rw [if_neg q2] at e
        exact R.2.1 q q' (hv.resolve_right q1) (hv'.resolve_right q2) e
  · obtain ⟨h1, h2⟩ := R.2.2.1 q c' hq
    have hq1 := hl _ _ h1
    refine ⟨by rw [xput_ne (fun e => h2 lr hlr e.symm), xnew_ne (by omega)]; exact h1, fun r hr => ?_⟩
    simp only
    by_cases q1 : r = br
    · rw [if_pos q1]
      omega
    · rw [if_neg q1]
      exact h2 r (((hL.vc hc0).mp hr).resolve_right q1)
/-- a list gets a new element -/
theorem Rep.addE (R : Rep E dc S K h) (hL : isL S.2.2.2 lr br el) (mo : Int32) (hW : kW (zset S.2.2.2 lr (S.2.2.2 lr 0 + 1) (S.2.2.2 lr 1))) (hc : 0 < S.2.2.2 lr 1)
    (hold : ∀ q, kV S.2.2.2 q → kV (zset S.2.2.2 lr (S.2.2.2 lr 0 + 1) (S.2.2.2 lr 1)) q)
    (hnew : ∀ q, kV (zset S.2.2.2 lr (S.2.2.2 lr 0 + 1) (S.2.2.2 lr 1)) q → ¬ kV S.2.2.2 q → xget h (E q) = some (kcell E dc (zset S.2.2.2 lr (S.2.2.2 lr 0 + 1) (S.2.2.2 lr 1)) q (S.1 q) (S.2.1 q) (S.2.2.1 q)) ∧ (∀ p, kV S.2.2.2 p → E p ≠ E q) ∧ (∀ c, K (E q) ≠ some c) ∧ ∀ p, kV (zset S.2.2.2 lr (S.2.2.2 lr 0 + 1) (S.2.2.2 lr 1)) p → ¬ kV S.2.2.2 p → E p = E q → p = q) :
    Rep E dc (czl S lr (S.2.2.2 lr 0 + 1) (S.2.2.2 lr 1) mo) K (xput (xput h (E br) (kArr (zset S.2.2.2 lr (S.2.2.2 lr 0 + 1) (S.2.2.2 lr 1) lr) (fun i => E (el i)))) (E lr) (kLst (zset S.2.2.2 lr (S.2.2.2 lr 0 + 1) (S.2.2.2 lr 1) lr) dc (E br) mo)) := by
  have hne := hL.ne
  have hlr := hL.v
  have hbr := hL.b hc
  refine ⟨fun q hq => ?_, fun q q' hq hq' e => ?_, fun q c' hq => ?_, R.2.2.2.1, hW⟩
  · by_cases q2 : q = lr
    · subst q2
      rw [xput_get, hL.cl]
      show _ = some (kLst _ dc (E br) ((if q = q then upd (S.1 q) 0 mo else S.1 q) 0))
      rw [if_pos rfl]
      rfl
    by_cases q1 : q = br
    · subst q1
      rw [xput_ne (fun e => hne (R.2.1 _ _ hbr hlr e)), xput_get, hL.cb]
      rfl
    by_cases hv : kV S.2.2.2 q
    · rw [xput_ne (fun e => q2 (R.2.1 _ _ hv hlr e)), xput_ne (fun e => q1 (R.2.1 _ _ hv hbr e)), R.1 q hv]
      show _ = some (kcell _ dc (zset S.2.2.2 lr (S.2.2.2 lr 0 + 1) (S.2.2.2 lr 1)) q (if q = lr then upd (S.1 lr) 0 mo else S.1 q) (S.2.1 q) (S.2.2.1 q))
      rw [if_neg q2, hL.co hv q2 q1 (fun p _ _ => rfl)]
    · obtain ⟨h1, h2, -, -⟩ := hnew q hq hv
      rw [xput_ne (Ne.symm (h2 lr hlr)), xput_ne (Ne.symm (h2 br hbr)), h1]
      show _ = some (kcell _ dc (zset S.2.2.2 lr (S.2.2.2 lr 0 + 1) (S.2.2.2 lr 1)) q (if q = lr then upd (S.1 lr) 0 mo else S.1 q) (S.2.1 q) (S.2.2.1 q))
      rw [if_neg q2]
  · by_cases hv : kV S.2.2.2 q
    · by_cases hv' : kV S.2.2.2 q'
      · exact R.2.1 q q' hv hv' e
      · exact absurd e ((hnew q' hq' hv').2.1 q hv)
    · by_cases hv' : kV S.2.2.2 q'
      · exact absurd e.symm ((hnew q hq hv).2.1 q' hv')
      · exact (hnew q' hq' hv').2.2.2 q hq hv e
  · obtain ⟨h1, h2⟩ := R.2.2.1 q c' hq
    refine ⟨by rw [xput_ne (fun e => h2 lr hlr e.symm), xput_ne (fun e => h2 br hbr e.symm)]; exact h1, fun r hr => ?_⟩
    by_cases hv : kV S.2.2.2 r
    · exact h2 r hv
    · exact fun e => (hnew r hr hv).2.2.1 c' (by rw [e]; exact hq)
end X66
