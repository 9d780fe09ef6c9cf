/- Part 65: new objects of the class. -/
theorem kV_iff (z : RO → Nat → Nat) (k i l : Nat) : kV z (k, i, l) ↔ (k < 19 ∧ i = 0 ∧ l = 0) ∨ (k = 19 ∧ i = 0 ∧ l = 0 ∧ 0 < z (9, 0, 0) 1) ∨ (k = 20 ∧ i = 0 ∧ l = 0 ∧ 0 < z (10, 0, 0) 1) ∨ (21 ≤ k ∧ k ≤ 24 ∧ i < z (9, 0, 0) 0 ∧ l = 0) ∨ (k = 25 ∧ i < z (9, 0, 0) 0 ∧ l = 0 ∧ 0 < z (24, i, 0) 1) ∨ (k = 26 ∧ i < z (9, 0, 0) 0 ∧ l < z (24, i, 0) 0) ∨ (27 ≤ k ∧ k ≤ 32 ∧ i < z (10, 0, 0) 0 ∧ l = 0) := by
  unfold kV
  simp only
  split
  case h_15 h1 h2 h3 h4 h5 h6 h7 h8 h9 h10 h11 h12 h13 h14 =>
    have e1 : ¬ k = 19 := h1
    have e2 : ¬ k = 20 := h2
    have e3 : ¬ k = 21 := h3
    have e4 : ¬ k = 22 := h4
    have e5 : ¬ k = 23 := h5
    have e6 : ¬ k = 24 := h6
    have e7 : ¬ k = 25 := h7
    have e8 : ¬ k = 26 := h8
    have e9 : ¬ k = 27 := h9
    have e10 : ¬ k = 28 := h10
    have e11 : ¬ k = 29 := h11
    have e12 : ¬ k = 30 := h12
    have e13 : ¬ k = 31 := h13
    have e14 : ¬ k = 32 := h14
    rw [Prod.mk.injEq]
    omega
  all_goals (try rw [Prod.mk.injEq])
  all_goals omega
section X65
variable {E E' : RO → Nat} {dc : Nat} {S : CS} {K : Nat → Option XC} {h : XH} {r : RO} {z z' : RO → Nat → Nat} {f : Nat → Int32} {g : Nat → Int64} {w : Nat → Nat}
theorem kArr_ext {z q q' : Nat → Nat} (hq : ∀ i, i < z 0 → q' i = q i) : kArr z q' = kArr z q := by
  have e : (fun i => if i < z 0 then some (q' i) else none) = (fun i => if i < z 0 then some (q i) else none) := by
    funext i
    by_cases hi : i < z 0
    · rw [if_pos hi, if_pos hi, hq i hi]
    · rw [if_neg hi, if_neg hi]
  unfold kArr
  rw [e]
theorem kLst_ext {z : Nat → Nat} {e e' : Nat} {mo : Int32} (he : 0 < z 1 → e' = e) : kLst z dc e' mo = kLst z dc e mo := by
  unfold kLst
  by_cases h0 : z 1 = 0
  · rw [if_pos h0, if_pos h0]
  · rw [if_neg h0, if_neg h0, he (by omega)]
theorem kcell_ext (hE : ∀ q, kV z q → q.1 ≠ 19 → q.1 ≠ 20 → q.1 ≠ 25 → E' q = E q) (h9 : r.1 = 9 → 0 < z (9, 0, 0) 1 → E' (19, 0, 0) = E (19, 0, 0)) (h10 : r.1 = 10 → 0 < z (10, 0, 0) 1 → E' (20, 0, 0) = E (20, 0, 0)) (h24 : r.1 = 24 → 0 < z (24, r.2.1, 0) 1 → E' (25, r.2.1, 0) = E (25, r.2.1, 0)) (hv : kV z r) : kcell E' dc z r f g w = kcell E dc z r f g w := by
  obtain ⟨k, i, l⟩ := r
  have hv2 := (kV_iff z k i l).mp hv
  have fx : ∀ k, k < 19 → E' (k, 0, 0) = E (k, 0, 0) := fun k hk => hE (k, 0, 0) ((kV_iff z k 0 0).mpr (by omega)) (by show k ≠ 19; omega) (by show k ≠ 20; omega) (by show k ≠ 25; omega)
  have hE2 : ∀ a b c : Nat, kV z (a, b, c) → (a ≠ 19 ∧ a ≠ 20 ∧ a ≠ 25) → E' (a, b, c) = E (a, b, c) := fun a b c hv h => hE (a, b, c) hv h.1 h.2.1 h.2.2
  unfold kcell
  simp only at *
  split
  · rw [fx 1 (by omega), fx 2 (by omega), fx 3 (by omega), fx 4 (by omega), fx 5 (by omega), fx 6 (by omega), fx 9 (by omega), fx 10 (by omega), fx 11 (by omega), fx 15 (by omega)]
  · rfl
  · rfl
  · rfl
  · rfl
  · rfl
  · rw [fx 7 (by omega), fx 8 (by omega)]
  · rfl
  · rfl
  · exact kLst_ext (h9 rfl)
  · exact kLst_ext (h10 rfl)
  · rw [fx 12 (by omega), fx 13 (by omega), fx 14 (by omega)]
  · rw [fx 16 (by omega), fx 17 (by omega), fx 18 (by omega)]
  · exact kArr_ext (fun y hy => hE2 21 y 0 ⟨hy, rfl⟩ (by decide))
  · exact kArr_ext (fun y hy => hE2 27 y 0 ⟨hy, rfl⟩ (by decide))
  · have hi : i < z (9, 0, 0) 0 := by omega
    rw [hE2 22 i 0 ⟨hi, rfl⟩ (by decide), hE2 23 i 0 ⟨hi, rfl⟩ (by decide), hE2 24 i 0 ⟨hi, rfl⟩ (by decide)]
  · rfl
  · rfl
  · exact kLst_ext (h24 rfl)
  · have hi : i < z (9, 0, 0) 0 := by omega
    exact kArr_ext (fun y hy => hE2 26 i y ⟨hi, hy⟩ (by decide))
  · rfl
  · have hi : i < z (10, 0, 0) 0 := by omega
    rw [hE2 28 i 0 ⟨hi, rfl⟩ (by decide), hE2 29 i 0 ⟨hi, rfl⟩ (by decide), hE2 30 i 0 ⟨hi, rfl⟩ (by decide), hE2 31 i 0 ⟨hi, rfl⟩ (by decide), hE2 32 i 0 ⟨hi, rfl⟩ (by decide)]
  all_goals rfl
/-- sizes: the same where there is something -/
def zSame (z z' : RO → Nat → Nat) : Prop := z' (9, 0, 0) = z (9, 0, 0) ∧ z' (10, 0, 0) = z (10, 0, 0) ∧ (∀ j, j < z (9, 0, 0) 0 → z' (24, j, 0) = z (24, j, 0)) ∧ ∀ p, p < z (10, 0, 0) 0 → z' (27, p, 0) = z (27, p, 0)
theorem zSame.kV (hz : zSame z z') : kV z' r ↔ kV z r := by
  obtain ⟨k, i, l⟩ := r
  rw [kV_iff, kV_iff, hz.1, hz.2.1]
  have h1 := hz.2.2.1 i
  constructor
  · rintro (q | q | q | q | ⟨q1, q2, q3, q4⟩ | ⟨q1, q2, q3⟩ | q)
    · exact Or.inl q
    · exact Or.inr (Or.inl q)
    · exact Or.inr (Or.inr (Or.inl q))
    · exact Or.inr (Or.inr (Or.inr (Or.inl q)))
    · exact Or.inr (Or.inr (Or.inr (Or.inr (Or.inl ⟨q1, q2, q3, by rw [← h1 q2]; exact q4⟩))))
    · exact Or.inr (Or.inr (Or.inr (Or.inr (Or.inr (Or.inl ⟨q1, q2, by rw [← h1 q2]; exact q3⟩)))))
    · exact Or.inr (Or.inr (Or.inr (Or.inr (Or.inr (Or.inr q)))))
  · rintro (q | q | q | q | ⟨q1, q2, q3, q4⟩ | ⟨q1, q2, q3⟩ | q)
    · exact Or.inl q
    · exact Or.inr (Or.inl q)
    · exact Or.inr (Or.inr (Or.inl q))
    · exact Or.inr (Or.inr (Or.inr (Or.inl q)))
    · exact Or.inr (Or.inr (Or.inr (Or.inr (Or.inl ⟨q1, q2, q3, by rw [h1 q2]; exact q4⟩))))
    · exact Or.inr (Or.inr (Or.inr (Or.inr (Or.inr (Or.inl ⟨q1, q2, by rw [h1 q2]; exact q3⟩)))))
    · exact Or.inr (Or.inr (Or.inr (Or.inr (Or.inr (Or.inr q)))))
theorem kcell_zs (hz : zSame z z') (hv : kV z r) : kcell E dc z' r f g w = kcell E dc z r f g w := by
  obtain ⟨k, i, l⟩ := r
  have hv2 := (kV_iff z k i l).mp hv
  unfold kcell
  simp only at *
  split
  · rfl
  · rfl
  · rfl
  · rfl
  · rfl
  · rfl
  · rfl
  · rfl
  · rfl
  · rw [hz.1]
  · rw [hz.2.1]
  · rfl
  · rfl
  · rw [hz.1]
  · rw [hz.2.1]
  · rfl
  · rfl
  · rfl
  · rw [hz.2.2.1 i (by omega)]
  · rw [hz.2.2.1 i (by omega)]
  · rfl
  · rw [hz.2.2.2 i (by omega)]
  · rw [hz.2.2.2 i (by omega)]
  · rw [hz.2.2.2 i (by omega)]
  · rw [hz.2.2.2 i (by omega)]
  · rw [hz.2.2.2 i (by omega)]
  · rw [hz.2.2.2 i (by omega)]
  · rfl
/-- other places and contents for objects that there are not yet; other cells at places that are new -/
theorem Rep.same {S' : CS} {u : XH} (R : Rep E dc S K h) (hE : ∀ q, kV S.2.2.2 q → E' q = E q) (hz : zSame S.2.2.2 S'.2.2.2) (hS : ∀ q, kV S.2.2.2 q → S'.1 q = S.1 q ∧ S'.2.1 q = S.2.1 q ∧ S'.2.2.1 q = S.2.2.1 q) (hl : ∀ (a : Nat) (c : XC), xget h a = some c → a < h.1) (hu : ∀ q, q < h.1 → xget u q = xget h q) : Rep E' dc S' K u := by
  refine ⟨fun q hq => ?_, fun q q' hq hq' e => ?_, fun q c hq => ?_, R.2.2.2.1, ?_⟩
  · rw [hz.kV] at hq
    obtain ⟨h1, h2, h3⟩ := hS q hq
    rw [hE q hq, kcell_zs hz hq, kcell_ext (fun q hq _ _ _ => hE q hq) (fun _ y => hE (19, 0, 0) ⟨rfl, y⟩) (fun _ y => hE (20, 0, 0) ⟨rfl, y⟩) (fun e y => hE _ ?_) hq, h1, h2, h3, hu _ (hl _ _ (R.1 q hq))]
    · exact R.1 q hq
    · obtain ⟨k, i, l⟩ := q
      have := (kV_iff _ k i l).mp hq
      simp only at e y
      exact ⟨by show i < _; omega, rfl, y⟩
  · rw [hz.kV] at hq hq'
    rw [hE q hq, hE q' hq'] at e
    exact R.2.1 q q' hq hq' e
  · obtain ⟨h1, h2⟩ := R.2.2.1 q c hq
    exact ⟨by rw [hu _ (hl _ _ h1)]; exact h1, fun r hr => by rw [hz.kV] at hr; rw [hE r hr]; exact h2 r hr⟩
  · obtain ⟨k1, k2, k3⟩ := R.2.2.2.2
    refine ⟨by rw [hz.1]; exact k1, by rw [hz.2.1]; exact k2, fun j hj => ?_⟩
    rw [hz.1] at hj
    rw [hz.2.2.1 j hj]
    exact k3 j hj
/-- a list's sizes changed: the cells that don't look at them -/
theorem kcell_z {lr : RO} (hz : ∀ q, q ≠ lr → z' q = z q) (n9 : r.1 = 9 ∨ r.1 = 19 → lr ≠ (9, 0, 0)) (n10 : r.1 = 10 ∨ r.1 = 20 → lr ≠ (10, 0, 0)) (n24 : r.1 = 24 ∨ r.1 = 25 → lr ≠ (24, r.2.1, 0)) (n27 : 27 ≤ r.1 → lr ≠ (27, r.2.1, 0)) : kcell E dc z' r f g w = kcell E dc z r f g w := by
  obtain ⟨k, i, l⟩ := r
  unfold kcell
  simp only at *
  split
  · rfl
  · rfl
  · rfl
  · rfl
  · rfl
  · rfl
  · rfl
  · rfl
  · rfl
  · rw [hz _ (Ne.symm (n9 (by omega)))]
  · rw [hz _ (Ne.symm (n10 (by omega)))]
  · rfl
  · rfl
  · rw [hz _ (Ne.symm (n9 (by omega)))]
  · rw [hz _ (Ne.symm (n10 (by omega)))]
  · rfl
  · rfl
  · rfl
  · rw [hz _ (Ne.symm (n24 (by omega)))]
  · rw [hz _ (Ne.symm (n24 (by omega)))]
  · rfl
  · rw [hz _ (Ne.symm (n27 (by omega)))]
  · rw [hz _ (Ne.symm (n27 (by omega)))]
  · rw [hz _ (Ne.symm (n27 (by omega)))]
  · rw [hz _ (Ne.symm (n27 (by omega)))]
  · rw [hz _ (Ne.symm (n27 (by omega)))]
  · rw [hz _ (Ne.symm (n27 (by omega)))]
  · rfl
end X65
