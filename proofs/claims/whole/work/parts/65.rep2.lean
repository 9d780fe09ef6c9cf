/- Part 65: new objects of the class. -/
theorem kV_iff (z : RO → Nat → Nat) (k i l : Nat) : kV z (k, i, l) ↔ (k < 19 ∧ i = 0 ∧ l = 0) ∨ (k = 19 ∧ i = 0 ∧ l = 0 ∧ 0 < z (9, 0, 0) 1) ∨ (k = 20 ∧ i = 0 ∧ l = 0 ∧ 0 < z (10, 0, 0) 1) ∨ (21 ≤ k ∧ k ≤ 24 ∧ i < z (9, 0, 0) 0 ∧ l = 0) ∨ (k = 25 ∧ i < z (9, 0, 0) 0 ∧ l = 0 ∧ 0 < z (24, i, 0) 1) ∨ (k = 26 ∧ i < z (9, 0, 0) 0 ∧ l < z (24, i, 0) 0) ∨ (27 ≤ k ∧ k ≤ 32 ∧ i < z (10, 0, 0) 0 ∧ l = 0) := by
  unfold kV
  simp only
  split <;> simp only [Prod.mk.injEq] <;> omega
section X65
variable {E E' : RO → Nat} {dc : Nat} {S : CS} {K : Nat → Option XC} {h : XH} {r : RO} {z z' : RO → Nat → Nat} {f : Nat → Int32} {g : Nat → Int64} {w : Nat → Nat}
theorem kArr_ext {z q q' : Nat → Nat} (hq : ∀ i, i < z 0 → q' i = q i) : kArr z q' = kArr z q := by
  have e : (fun i => if i < z 0 then some (q' i) else none) = (fun i => if i < z 0 then some (q i) else none) := by
    funext i
    by_cases hi : i < z 0
    · rw [if_pos hi, if_pos hi, hq i hi]
    · rw [if_neg hi, if_neg hi]
  unfold kArr
  rw [e]
theorem kLst_ext {z : Nat → Nat} {e e' : Nat} {mo : Int32} (he : 0 < z 1 → e' = e) : kLst z dc e' mo = kLst z dc e mo := by
  unfold kLst
  by_cases h0 : z 1 = 0
  · rw [if_pos h0, if_pos h0]
  · rw [if_neg h0, if_neg h0, he (by omega)]
theorem kcell_ext (hE : ∀ q, kV z q → E' q = E q) (hv : kV z r) : kcell E' dc z r f g w = kcell E dc z r f g w := by
  obtain ⟨k, i, l⟩ := r
  have hv2 := (kV_iff z k i l).mp hv
  unfold kcell
  simp only
  split
  · rw [hE _ kV_1, hE _ kV_2, hE _ kV_3, hE _ kV_4, hE _ kV_5, hE _ kV_6, hE _ kV_9, hE _ kV_10, hE _ kV_11, hE _ kV_15]
  · rfl
  · rfl
  · rfl
  · rfl
  · rfl
  · rw [hE _ kV_7, hE _ kV_8]
  · rfl
  · rfl
  · exact kLst_ext (fun y => hE (19, 0, 0) ⟨rfl, y⟩)
  · exact kLst_ext (fun y => hE (20, 0, 0) ⟨rfl, y⟩)
  · rw [hE _ kV_12, hE _ kV_13, hE _ kV_14]
  · rw [hE _ kV_16, hE _ kV_17, hE _ kV_18]
  · exact kArr_ext (fun y hy => hE (21, y, 0) ⟨hy, rfl⟩)
  · exact kArr_ext (fun y hy => hE (27, y, 0) ⟨hy, rfl⟩)
  · have hi : i < z (9, 0, 0) 0 := by omega
    rw [hE (22, i, 0) ⟨hi, rfl⟩, hE (23, i, 0) ⟨hi, rfl⟩, hE (24, i, 0) ⟨hi, rfl⟩]
  · rfl
  · rfl
  · have hi : i < z (9, 0, 0) 0 := by omega
    exact kLst_ext (fun y => hE (25, i, 0) ⟨hi, rfl, y⟩)
  · have hi : i < z (9, 0, 0) 0 := by omega
    exact kArr_ext (fun y hy => hE (26, i, y) ⟨hi, hy⟩)
  · rfl
  · have hi : i < z (10, 0, 0) 0 := by omega
    rw [hE (28, i, 0) ⟨hi, rfl⟩, hE (29, i, 0) ⟨hi, rfl⟩, hE (30, i, 0) ⟨hi, rfl⟩, hE (31, i, 0) ⟨hi, rfl⟩, hE (32, i, 0) ⟨hi, rfl⟩]
  all_goals rfl
/-- other places for objects that there are not yet -/
theorem Rep.ext (R : Rep E dc S K h) (hE : ∀ q, kV S.2.2.2 q → E' q = E q) : Rep E' dc S K h := by
  refine ⟨fun q hq => ?_, fun q q' hq hq' e => ?_, fun q c hq => ?_, R.2.2.2⟩
  · rw [hE q hq, kcell_ext hE hq]
    exact R.1 q hq
  · rw [hE q hq, hE q' hq'] at e
    exact R.2.1 q q' hq hq' e
  · obtain ⟨h1, h2⟩ := R.2.2.1 q c hq
    exact ⟨h1, fun r hr => by rw [hE r hr]; exact h2 r hr⟩
/-- a list's sizes changed: the cells that don't look at them -/
theorem kcell_z {lr : RO} (hz : ∀ q, q ≠ lr → z' q = z q) (n9 : r.1 = 9 ∨ r.1 = 19 → lr ≠ (9, 0, 0)) (n10 : r.1 = 10 ∨ r.1 = 20 → lr ≠ (10, 0, 0)) (n24 : r.1 = 24 ∨ r.1 = 25 → lr ≠ (24, r.2.1, 0)) (n27 : 27 ≤ r.1 → lr ≠ (27, r.2.1, 0)) : kcell E dc z' r f g w = kcell E dc z r f g w := by
  obtain ⟨k, i, l⟩ := r
  unfold kcell
  simp only at *
  split
  · rfl
  · rfl
  · rfl
  · rfl
  · rfl
  · rfl
  · rfl
  · rfl
  · rfl
  · rw [hz _ (Ne.symm (n9 (by omega)))]
  · rw [hz _ (Ne.symm (n10 (by omega)))]
  · rfl
  · rfl
  · rw [hz _ (Ne.symm (n9 (by omega)))]
  · rw [hz _ (Ne.symm (n10 (by omega)))]
  · rfl
  · rfl
  · rfl
  · rw [hz _ (Ne.symm (n24 (by omega)))]
  · rw [hz _ (Ne.symm (n24 (by omega)))]
  · rfl
  · rw [hz _ (Ne.symm (n27 (by omega)))]
  · rw [hz _ (Ne.symm (n27 (by omega)))]
  · rw [hz _ (Ne.symm (n27 (by omega)))]
  · rw [hz _ (Ne.symm (n27 (by omega)))]
  · rw [hz _ (Ne.symm (n27 (by omega)))]
  · rw [hz _ (Ne.symm (n27 (by omega)))]
  · rfl
end X65
