/- Part 79: a new ChannelNet. -/
/-- what a constructor has made so far: the object a with the fields fs, then the cells l, one behind the other -/
def Bld (h : XH) (a : Nat) (fs : List Value) (l : List XC) (n : Nat) (u : XH) : Prop := u.1 = h.1 + l.length ∧ u.2.1 = h.2.1 + l.length ∧ u.2.2.1 = h.2.2.1 + n ∧ xget u a = some (.inr (0, fs)) ∧ (∀ i c, l[i]? = some c → xget u (h.1 + i) = some c) ∧ ∀ q, q < h.1 → q ≠ a → xget u q = xget h q
section X79
variable {h u : XH} {a n m : Nat} {fs fs' : List Value} {l : List XC} {c : XC}
theorem Bld.new (B : Bld h a fs l n u) (ha : a < h.1) (c : XC) (m : Nat) : Bld h a fs (l ++ [c]) (n + m) (xnew u c m) := by
  obtain ⟨b1, b2, b3, b4, b5, b6⟩ := B
  refine ⟨?_, ?_, ?_, ?_, fun i c' hi => ?_, fun q hq hqa => ?_⟩
  · show u.1 + 1 = _
    rw [b1, List.length_append, List.length_singleton]
    omega
  · show u.2.1 + 1 = _
    rw [b2, List.length_append, List.length_singleton]
    omega
  · show u.2.2.1 + m = _
    omega
  · rw [xnew_ne (by omega)]
    exact b4
  · by_cases e : i < l.length
    · rw [List.getElem?_append_left e] at hi
      rw [xnew_ne (by omega)]
      exact b5 i c' hi
    · rw [List.getElem?_append_right (by omega)] at hi
      have ei : i = l.length := by
        refine Decidable.byContradiction fun z => ?_
        rw [List.getElem?_eq_none (by simp; omega)] at hi
        cases hi
      rw [ei] at hi
      simp at hi
      rw [ei, ← b1, ← hi]
      exact new_get
  · rw [xnew_ne (by omega)]
    exact b6 q hq hqa
theorem Bld.put (B : Bld h a fs l n u) (ha : a < h.1) (fs' : List Value) : Bld h a fs' l n (xput u a (.inr (0, fs'))) := by
  obtain ⟨b1, b2, b3, b4, b5, b6⟩ := B
  exact ⟨b1, b2, b3, xput_get, fun i c hi => by rw [xput_ne (by omega)]; exact b5 i c hi, fun q hq hqa => by rw [xput_ne hqa]; exact b6 q hq hqa⟩
theorem Bld.set (B : Bld h a fs l n u) (ha : a < h.1) (i : Nat) (hi : i < l.length) (c : XC) : Bld h a fs (l.set i c) n (xput u (h.1 + i) c) := by
  obtain ⟨b1, b2, b3, b4, b5, b6⟩ := B
  refine ⟨by rw [List.length_set]; exact b1, by rw [List.length_set]; exact b2, b3, by rw [xput_ne (by omega)]; exact b4, fun j c' hj => ?_, fun q hq hqa => by rw [xput_ne (by omega)]; exact b6 q hq hqa⟩
  by_cases e : i = j
  · subst e
    rw [List.getElem?_set_self hi] at hj
    cases hj
    exact xput_get
  · rw [List.getElem?_set_ne e] at hj
    rw [xput_ne (by omega)]
    exact b5 j c' hj
theorem Bld.at (B : Bld h a fs l n u) {i : Nat} (hi : l[i]? = some c) : xget u (h.1 + i) = some c := B.2.2.2.2.1 i c hi
end X79
def cN (x : Int32) : Nat → Nat → Int32
  | 0 => fun _ => 0
  | k + 1 => upd (cN x k) k x
/-- a new net -/
def cS0 : CS := (fun q => if q = (1, 0, 0) then cN 1000000 6 else if q = (4, 0, 0) then cN 1 6 else fun _ => 0, fun _ _ => 0, fun _ _ => 0, fun _ _ => 0)
section Y79
variable {D : va_G} {N0 : Nat} {d a : Nat} {K : Nat → Option XC} {h : XH}
def lNet (dc b : Nat) (f g : Nat → Int32) : List XC := [.inl (false, .int, 6, .inl f), .inl (false, .int, 6, .inl fun _ => 0), .inl (false, .int, 6, .inl fun _ => 0), .inl (false, .int, 6, .inl g), .inl (false, .boolean, 6, .inl fun _ => 0), .inr (1, [.ref (b + 6), .ref (b + 7), .int (nI 0)]), zJ 24, zI 24, lF dc 0 0, lF dc 0 0, .inr (3, roF (b + 11) (b + 12) (b + 13) (nI 0)), zI 5, zI 5, zI 5, .inr (3, roF (b + 15) (b + 16) (b + 17) (nI 0)), zI 5, zI 5, zI 5]
theorem c_N_init (ha : xget h a = some (.inr (0, xdf 0))) (hl : a < h.1) (hK : ∀ q c, K q = some c → xget h q = some c ∧ q ≠ a) (hd : kDc K (D.1 1000)) (wf : ∀ (q : Nat) (c : XC), xget h q = some c → q < h.1) (hc1 : h.2.1 + 18 ≤ xCmax) (hc2 : h.2.2.1 + 125 ≤ xSmax) :
    xV D N0 mN_init (d + 4) 0 (xargs 2 [.ref a]) [] h (fun o u => o = .returned none ∧ ∃ E, E (0, 0, 0) = a ∧ Rep E (D.1 1000) cS0 K u ∧ xMk h u 18 125) := by
  -- the end: the objects are as said
  have fin : ∀ u, Bld h a (neF h.1 (h.1 + 1) (h.1 + 2) (h.1 + 3) (h.1 + 4) (h.1 + 5) (h.1 + 8) (h.1 + 9) (h.1 + 10) (h.1 + 14) 0) (lNet (D.1 1000) h.1 (cN 1000000 6) (cN 1 6)) 125 u → ∃ E : RO → Nat, E (0, 0, 0) = a ∧ Rep E (D.1 1000) cS0 K u ∧ xMk h u 18 125 := by
    intro u B
    have kv : ∀ r, kV cS0.2.2.2 r → ∃ k, k < 19 ∧ r = (k, 0, 0) := by
      rintro ⟨k, i, l⟩ hr
      have q := (kV_iff _ k i l).mp hr
      have z0 : ∀ x y, cS0.2.2.2 x y = 0 := fun _ _ => rfl
      rw [z0, z0, z0, z0, z0, z0] at q
      exact ⟨k, by omega, by rw [show i = 0 by omega, show l = 0 by omega]⟩
    refine ⟨fun q => if q.1 = 0 then a else h.1 + (q.1 - 1), rfl, ⟨fun r hr => ?_, fun r r' hr hr' e => ?_, fun q c hq => ?_, hd, ?_⟩, by have := B.2.1; exact Nat.le_of_eq this, by have := B.2.2.1; exact Nat.le_of_eq this⟩
    · obtain ⟨k, hk, rfl⟩ := kv r hr
      obtain rfl | rfl | rfl | rfl | rfl | rfl | rfl | rfl | rfl | rfl | rfl | rfl | rfl | rfl | rfl | rfl | rfl | rfl | rfl : k = 0 ∨ k = 1 ∨ k = 2 ∨ k = 3 ∨ k = 4 ∨ k = 5 ∨ k = 6 ∨ k = 7 ∨ k = 8 ∨ k = 9 ∨ k = 10 ∨ k = 11 ∨ k = 12 ∨ k = 13 ∨ k = 14 ∨ k = 15 ∨ k = 16 ∨ k = 17 ∨ k = 18 := by omega
      · exact B.2.2.2.1
      · exact B.at (i := 0) rfl
      · exact B.at (i := 1) rfl
      · exact B.at (i := 2) rfl
      · exact B.at (i := 3) rfl
      · exact B.at (i := 4) rfl
      · exact B.at (i := 5) rfl
      · exact B.at (i := 6) rfl
      · exact B.at (i := 7) rfl
      · exact B.at (i := 8) rfl
      · exact B.at (i := 9) rfl
      · exact B.at (i := 10) rfl
      · exact B.at (i := 11) rfl
      · exact B.at (i := 12) rfl
      · exact B.at (i := 13) rfl
      · exact B.at (i := 14) rfl
      · exact B.at (i := 15) rfl
      · exact B.at (i := 16) rfl
      · exact B.at (i := 17) rfl
    · obtain ⟨k, hk, rfl⟩ := kv r hr
      obtain ⟨k', hk', rfl⟩ := kv r' hr'
      have e2 : k = k' := by
        simp only at e
        split at e <;> split at e <;> omega
      rw [e2]
    · obtain ⟨q1, q2⟩ := hK q c hq
      refine ⟨by rw [B.2.2.2.2.2 q (wf _ _ q1) q2]; exact q1, fun r hr => ?_⟩
      have := wf _ _ q1
      simp only
      split
      · exact fun e => q2 e.symm
      · omega
    · exact ⟨⟨Nat.le_refl _, Or.inl rfl⟩, ⟨Nat.le_refl _, Or.inl rfl⟩, fun j hj => absurd hj (Nat.not_lt_zero _)⟩
  have loop : ∀ n k, k + n = 6 → ∀ u, Bld h a (neF h.1 (h.1 + 1) (h.1 + 2) (h.1 + 3) (h.1 + 4) (h.1 + 5) (h.1 + 8) (h.1 + 9) (h.1 + 10) (h.1 + 14) 0) (lNet (D.1 1000) h.1 (cN 1000000 k) (cN 1 k)) 125 u → xV D N0 mN_init (d + 4) 106 [some (.ref a), some (.int (nI k))] [] u (fun o u => o = .returned none ∧ ∃ E, E (0, 0, 0) = a ∧ Rep E (D.1 1000) cS0 K u ∧ xMk h u 18 125) := by
    intro n
    induction n with
    | zero =>
      intro k hk u B
      obtain rfl : k = 6 := by omega
      refine xV.step rfl ?_
      refine xV.step rfl ?_
      refine xV.br rfl (fun h1 => ?_) (fun h1 => absurd (by decide) h1)
      exact xV.vret rfl rfl ⟨rfl, fin u B⟩
    | succ n ih =>
      intro k hk u B
      refine xV.step rfl ?_
      refine xV.step rfl ?_
      refine xV.br rfl (fun h1 => ?_) (fun h1 => ?_)
      · rw [show (6 : Int32) = nI 6 from rfl, xn_le (by omega) (by omega)] at h1
        omega
      refine xV.step rfl ?_
      refine xV.get xcl_ok rfl B.2.2.2.1 rfl ?_
      refine xV.step rfl ?_
      refine xV.step rfl ?_
      have b0 : xget u h.1 = some (.inl (false, .int, 6, .inl (cN 1000000 k))) := B.at (i := 0) rfl
      refine xV.is (j := k) rfl b0 rfl (by omega) (by omega) ?_
      have B1 := B.set hl 0 (Nat.le_of_ble_eq_true rfl) (.inl (false, .int, 6, .inl (upd (cN 1000000 k) k 1000000)))
      replace B1 : Bld h a (neF h.1 (h.1 + 1) (h.1 + 2) (h.1 + 3) (h.1 + 4) (h.1 + 5) (h.1 + 8) (h.1 + 9) (h.1 + 10) (h.1 + 14) 0) (lNet (D.1 1000) h.1 (cN 1000000 (k + 1)) (cN 1 k)) 125 (xput u h.1 (.inl (false, .int, 6, .inl (upd (cN 1000000 k) k 1000000)))) := B1
      generalize xput u h.1 (.inl (false, .int, 6, .inl (upd (cN 1000000 k) k 1000000))) = u1 at B1 ⊢
      refine xV.step rfl ?_
      refine xV.get xcl_ok rfl B1.2.2.2.1 rfl ?_
      refine xV.step rfl ?_
      refine xV.step rfl ?_
      have b3 : xget u1 (h.1 + 3) = some (.inl (false, .int, 6, .inl (cN 1 k))) := B1.at (i := 3) rfl
      refine xV.is (j := k) rfl b3 rfl (by omega) (by omega) ?_
      have B2 := B1.set hl 3 (Nat.le_of_ble_eq_true rfl) (.inl (false, .int, 6, .inl (upd (cN 1 k) k 1)))
      have ih := ih (k + 1) (by omega) _ B2
      rw [← xn_succ] at ih
      refine xV.step rfl ?_
      refine xV.step rfl ?_
      exact ih
  have B0 : Bld h a (xdf 0) [] 0 h := ⟨rfl, rfl, rfl, ha, (fun i c hi => by cases hi), fun q _ _ => rfl⟩
  refine xV.step rfl ?_
  refine xV.obj rfl g_mN_init_3 (Nat.le_of_ble_eq_true rfl) ?_
  have e0 : h.1 = h.1 + 0 := B0.1
  have r0 : h.2.1 = h.2.1 + 0 := B0.2.1
  have t0 : h.2.2.1 = h.2.2.1 + 0 := B0.2.2.1
  refine xV.step rfl ?_
  refine xV.step rfl ?_
  refine xV.nwI (N := 6) rfl rfl (by omega) (by omega) (by omega) ?_
  have Bx0 := B0.new hl (.inl (false, .int, 6, .inl fun _ => 0)) 6
  refine xV.put xcl_ok rfl Bx0.2.2.2.1 rfl rfl rfl (Nat.le_of_ble_eq_true rfl) ?_
  replace Bx0 := Bx0.put hl ((xdf 0).set 0 (.ref h.1))
  generalize hg0 : xput (xnew h (.inl (false, .int, 6, .inl fun _ => 0)) 6) a (.inr (0, ((xdf 0).set 0 (.ref h.1)))) = v1 at Bx0 ⊢
  clear hg0
  have e1 : v1.1 = h.1 + 1 := Bx0.1
  have r1 : v1.2.1 = h.2.1 + 1 := Bx0.2.1
  have t1 : v1.2.2.1 = h.2.2.1 + 6 := Bx0.2.2.1
  refine xV.step rfl ?_
  refine xV.step rfl ?_
  refine xV.nwI (N := 6) rfl rfl (by omega) (by omega) (by omega) ?_
  have Bx1 := Bx0.new hl (.inl (false, .int, 6, .inl fun _ => 0)) 6
  rw [e1]
  refine xV.put xcl_ok rfl Bx1.2.2.2.1 rfl rfl rfl (Nat.le_of_ble_eq_true rfl) ?_
  replace Bx1 := Bx1.put hl (((xdf 0).set 0 (.ref h.1)).set 1 (.ref (h.1 + 1)))
  generalize hg1 : xput (xnew v1 (.inl (false, .int, 6, .inl fun _ => 0)) 6) a (.inr (0, (((xdf 0).set 0 (.ref h.1)).set 1 (.ref (h.1 + 1))))) = v2 at Bx1 ⊢
  clear hg1
  have e2 : v2.1 = h.1 + 2 := Bx1.1
  have r2 : v2.2.1 = h.2.1 + 2 := Bx1.2.1
  have t2 : v2.2.2.1 = h.2.2.1 + 12 := Bx1.2.2.1
  refine xV.step rfl ?_
  refine xV.step rfl ?_
  refine xV.nwI (N := 6) rfl rfl (by omega) (by omega) (by omega) ?_
  have Bx2 := Bx1.new hl (.inl (false, .int, 6, .inl fun _ => 0)) 6
  rw [e2]
  refine xV.put xcl_ok rfl Bx2.2.2.2.1 rfl rfl rfl (Nat.le_of_ble_eq_true rfl) ?_
  replace Bx2 := Bx2.put hl ((((xdf 0).set 0 (.ref h.1)).set 1 (.ref (h.1 + 1))).set 2 (.ref (h.1 + 2)))
  generalize hg2 : xput (xnew v2 (.inl (false, .int, 6, .inl fun _ => 0)) 6) a (.inr (0, ((((xdf 0).set 0 (.ref h.1)).set 1 (.ref (h.1 + 1))).set 2 (.ref (h.1 + 2))))) = v3 at Bx2 ⊢
  clear hg2
  have e3 : v3.1 = h.1 + 3 := Bx2.1
  have r3 : v3.2.1 = h.2.1 + 3 := Bx2.2.1
  have t3 : v3.2.2.1 = h.2.2.1 + 18 := Bx2.2.2.1
  refine xV.step rfl ?_
  refine xV.step rfl ?_
  refine xV.nwI (N := 6) rfl rfl (by omega) (by omega) (by omega) ?_
  have Bx3 := Bx2.new hl (.inl (false, .int, 6, .inl fun _ => 0)) 6
  rw [e3]
  refine xV.put xcl_ok rfl Bx3.2.2.2.1 rfl rfl rfl (Nat.le_of_ble_eq_true rfl) ?_
  replace Bx3 := Bx3.put hl (((((xdf 0).set 0 (.ref h.1)).set 1 (.ref (h.1 + 1))).set 2 (.ref (h.1 + 2))).set 3 (.ref (h.1 + 3)))
  generalize hg3 : xput (xnew v3 (.inl (false, .int, 6, .inl fun _ => 0)) 6) a (.inr (0, (((((xdf 0).set 0 (.ref h.1)).set 1 (.ref (h.1 + 1))).set 2 (.ref (h.1 + 2))).set 3 (.ref (h.1 + 3))))) = v4 at Bx3 ⊢
  clear hg3
  have e4 : v4.1 = h.1 + 4 := Bx3.1
  have r4 : v4.2.1 = h.2.1 + 4 := Bx3.2.1
  have t4 : v4.2.2.1 = h.2.2.1 + 24 := Bx3.2.2.1
  refine xV.step rfl ?_
  refine xV.step rfl ?_
  refine xV.nwZ (N := 6) rfl rfl (by omega) (by omega) (by omega) ?_
  have Bx4 := Bx3.new hl (.inl (false, .boolean, 6, .inl fun _ => 0)) 6
  rw [e4]
  refine xV.put xcl_ok rfl Bx4.2.2.2.1 rfl rfl rfl (Nat.le_of_ble_eq_true rfl) ?_
  replace Bx4 := Bx4.put hl ((((((xdf 0).set 0 (.ref h.1)).set 1 (.ref (h.1 + 1))).set 2 (.ref (h.1 + 2))).set 3 (.ref (h.1 + 3))).set 4 (.ref (h.1 + 4)))
  generalize hg4 : xput (xnew v4 (.inl (false, .boolean, 6, .inl fun _ => 0)) 6) a (.inr (0, ((((((xdf 0).set 0 (.ref h.1)).set 1 (.ref (h.1 + 1))).set 2 (.ref (h.1 + 2))).set 3 (.ref (h.1 + 3))).set 4 (.ref (h.1 + 4))))) = v5 at Bx4 ⊢
  clear hg4
  have e5 : v5.1 = h.1 + 5 := Bx4.1
  have r5 : v5.2.1 = h.2.1 + 5 := Bx4.2.1
  have t5 : v5.2.2.1 = h.2.2.1 + 30 := Bx4.2.2.1
  refine xV.step rfl ?_
  refine xV.new xcl_ok (ci := 1) rfl rfl n_mN_init_26 (by omega) (by show v5.2.2.1 + 3 ≤ _; omega) ?_
  refine xV.step rfl ?_
  refine xV.callN rfl rfl g_mN_init_28 mS_init_ok (Nat.le_of_ble_eq_true rfl) (Nat.le_of_ble_eq_true rfl) (c_S_init (a := v5.1) (h := xnew v5 (.inr (1, xdf 1)) 3) new_get (Nat.lt_succ_self _) (by show v5.2.1 + 1 + 2 ≤ _; omega) (by show v5.2.2.1 + 3 + 48 ≤ _; omega)) (fun w x hz => ?_) (fun w x hz => by cases hz.1)
  obtain ⟨ez, rfl⟩ := hz
  cases ez
  have Bx5 := (((Bx4.new hl (.inr (1, xdf 1)) 3).new hl (zJ 24) 24).new hl (zI 24) 24).set hl 5 (Nat.le_of_ble_eq_true rfl) (.inr (1, [.ref (h.1 + 6), .ref (h.1 + 7), .int (nI 0)]))
  show xV D N0 mN_init (d + 4) 52 _ [.ref v5.1, .ref a] (xput (xnew (xnew (xnew v5 (.inr (1, xdf 1)) 3) (zJ 24) 24) (zI 24) 24) v5.1 (.inr (1, [.ref (v5.1 + 1), .ref (v5.1 + 1 + 1), .int (nI 0)]))) _
  rw [e5]
  refine xV.put xcl_ok rfl Bx5.2.2.2.1 rfl rfl rfl (Nat.le_of_ble_eq_true rfl) ?_
  replace Bx5 := Bx5.put hl (((((((xdf 0).set 0 (.ref h.1)).set 1 (.ref (h.1 + 1))).set 2 (.ref (h.1 + 2))).set 3 (.ref (h.1 + 3))).set 4 (.ref (h.1 + 4))).set 5 (.ref (h.1 + 5)))
  generalize hg5 : xput (xput (xnew (xnew (xnew v5 (.inr (1, xdf 1)) 3) (zJ 24) 24) (zI 24) 24) (h.1 + 5) (.inr (1, [.ref (h.1 + 6), .ref (h.1 + 7), .int (nI 0)]))) a (.inr (0, (((((((xdf 0).set 0 (.ref h.1)).set 1 (.ref (h.1 + 1))).set 2 (.ref (h.1 + 2))).set 3 (.ref (h.1 + 3))).set 4 (.ref (h.1 + 4))).set 5 (.ref (h.1 + 5))))) = v6 at Bx5 ⊢
  clear hg5
  have e6 : v6.1 = h.1 + 8 := Bx5.1
  have r6 : v6.2.1 = h.2.1 + 8 := Bx5.2.1
  have t6 : v6.2.2.1 = h.2.2.1 + 81 := Bx5.2.2.1
  refine xV.step rfl ?_
  refine xV.new xcl_ok (ci := 2) rfl rfl n_mN_init_33 (by omega) (by show v6.2.2.1 + 3 ≤ _; omega) ?_
  refine xV.step rfl ?_
  refine xV.cI rfl rfl g_mN_init_35 mA_init_ok (Nat.le_of_ble_eq_true rfl) (Nat.le_of_ble_eq_true rfl) (c_A_init (a := v6.1) (h := xnew v6 (.inr (2, xdf 2)) 3) new_get) ?_
  have Bx6 := (Bx5.new hl (.inr (2, xdf 2)) 3).set hl 8 (Nat.le_of_ble_eq_true rfl) (lF (D.1 1000) 0 0)
  show xV D N0 mN_init (d + 4) 63 _ [.ref v6.1, .ref a] (xput (xnew v6 (.inr (2, xdf 2)) 3) v6.1 (lF (D.1 1000) 0 0)) _
  rw [e6]
  refine xV.put xcl_ok rfl Bx6.2.2.2.1 rfl rfl rfl (Nat.le_of_ble_eq_true rfl) ?_
  replace Bx6 := Bx6.put hl ((((((((xdf 0).set 0 (.ref h.1)).set 1 (.ref (h.1 + 1))).set 2 (.ref (h.1 + 2))).set 3 (.ref (h.1 + 3))).set 4 (.ref (h.1 + 4))).set 5 (.ref (h.1 + 5))).set 6 (.ref (h.1 + 8)))
  generalize hg6 : xput (xput (xnew v6 (.inr (2, xdf 2)) 3) (h.1 + 8) (lF (D.1 1000) 0 0)) a (.inr (0, ((((((((xdf 0).set 0 (.ref h.1)).set 1 (.ref (h.1 + 1))).set 2 (.ref (h.1 + 2))).set 3 (.ref (h.1 + 3))).set 4 (.ref (h.1 + 4))).set 5 (.ref (h.1 + 5))).set 6 (.ref (h.1 + 8))))) = v7 at Bx6 ⊢
  clear hg6
  have e7 : v7.1 = h.1 + 9 := Bx6.1
  have r7 : v7.2.1 = h.2.1 + 9 := Bx6.2.1
  have t7 : v7.2.2.1 = h.2.2.1 + 84 := Bx6.2.2.1
  refine xV.step rfl ?_
  refine xV.new xcl_ok (ci := 2) rfl rfl n_mN_init_33 (by omega) (by show v7.2.2.1 + 3 ≤ _; omega) ?_
  refine xV.step rfl ?_
  refine xV.cI rfl rfl g_mN_init_35 mA_init_ok (Nat.le_of_ble_eq_true rfl) (Nat.le_of_ble_eq_true rfl) (c_A_init (a := v7.1) (h := xnew v7 (.inr (2, xdf 2)) 3) new_get) ?_
  have Bx7 := (Bx6.new hl (.inr (2, xdf 2)) 3).set hl 9 (Nat.le_of_ble_eq_true rfl) (lF (D.1 1000) 0 0)
  show xV D N0 mN_init (d + 4) 74 _ [.ref v7.1, .ref a] (xput (xnew v7 (.inr (2, xdf 2)) 3) v7.1 (lF (D.1 1000) 0 0)) _
  rw [e7]
  refine xV.put xcl_ok rfl Bx7.2.2.2.1 rfl rfl rfl (Nat.le_of_ble_eq_true rfl) ?_
  replace Bx7 := Bx7.put hl (((((((((xdf 0).set 0 (.ref h.1)).set 1 (.ref (h.1 + 1))).set 2 (.ref (h.1 + 2))).set 3 (.ref (h.1 + 3))).set 4 (.ref (h.1 + 4))).set 5 (.ref (h.1 + 5))).set 6 (.ref (h.1 + 8))).set 7 (.ref (h.1 + 9)))
  generalize hg7 : xput (xput (xnew v7 (.inr (2, xdf 2)) 3) (h.1 + 9) (lF (D.1 1000) 0 0)) a (.inr (0, (((((((((xdf 0).set 0 (.ref h.1)).set 1 (.ref (h.1 + 1))).set 2 (.ref (h.1 + 2))).set 3 (.ref (h.1 + 3))).set 4 (.ref (h.1 + 4))).set 5 (.ref (h.1 + 5))).set 6 (.ref (h.1 + 8))).set 7 (.ref (h.1 + 9))))) = v8 at Bx7 ⊢
  clear hg7
  have e8 : v8.1 = h.1 + 10 := Bx7.1
  have r8 : v8.2.1 = h.2.1 + 10 := Bx7.2.1
  have t8 : v8.2.2.1 = h.2.2.1 + 87 := Bx7.2.2.1
  refine xV.step rfl ?_
  refine xV.new xcl_ok (ci := 3) rfl rfl n_mN_init_43 (by omega) (by show v8.2.2.1 + 4 ≤ _; omega) ?_
  refine xV.step rfl ?_
  refine xV.callN rfl rfl g_mN_init_45 mR_init_ok (Nat.le_of_ble_eq_true rfl) (Nat.le_of_ble_eq_true rfl) (c_R_init (a := v8.1) (h := xnew v8 (.inr (3, xdf 3)) 4) new_get (Nat.lt_succ_self _) (by show v8.2.1 + 1 + 3 ≤ _; omega) (by show v8.2.2.1 + 4 + 15 ≤ _; omega)) (fun w x hz => ?_) (fun w x hz => by cases hz.1)
  obtain ⟨ez, rfl⟩ := hz
  cases ez
  have Bx8 := ((((Bx7.new hl (.inr (3, xdf 3)) 4).new hl (zI 5) 5).new hl (zI 5) 5).new hl (zI 5) 5).set hl 10 (Nat.le_of_ble_eq_true rfl) (.inr (3, roF (h.1 + 11) (h.1 + 12) (h.1 + 13) (nI 0)))
  show xV D N0 mN_init (d + 4) 85 _ [.ref v8.1, .ref a] (xput (xnew (xnew (xnew (xnew v8 (.inr (3, xdf 3)) 4) (zI 5) 5) (zI 5) 5) (zI 5) 5) v8.1 (.inr (3, roF (v8.1 + 1) (v8.1 + 1 + 1) (v8.1 + 1 + 2) (nI 0)))) _
  rw [e8]
  refine xV.put xcl_ok rfl Bx8.2.2.2.1 rfl rfl rfl (Nat.le_of_ble_eq_true rfl) ?_
  replace Bx8 := Bx8.put hl ((((((((((xdf 0).set 0 (.ref h.1)).set 1 (.ref (h.1 + 1))).set 2 (.ref (h.1 + 2))).set 3 (.ref (h.1 + 3))).set 4 (.ref (h.1 + 4))).set 5 (.ref (h.1 + 5))).set 6 (.ref (h.1 + 8))).set 7 (.ref (h.1 + 9))).set 8 (.ref (h.1 + 10)))
  generalize hg8 : xput (xput (xnew (xnew (xnew (xnew v8 (.inr (3, xdf 3)) 4) (zI 5) 5) (zI 5) 5) (zI 5) 5) (h.1 + 10) (.inr (3, roF (h.1 + 11) (h.1 + 12) (h.1 + 13) (nI 0)))) a (.inr (0, ((((((((((xdf 0).set 0 (.ref h.1)).set 1 (.ref (h.1 + 1))).set 2 (.ref (h.1 + 2))).set 3 (.ref (h.1 + 3))).set 4 (.ref (h.1 + 4))).set 5 (.ref (h.1 + 5))).set 6 (.ref (h.1 + 8))).set 7 (.ref (h.1 + 9))).set 8 (.ref (h.1 + 10))))) = v9 at Bx8 ⊢
  clear hg8
  have e9 : v9.1 = h.1 + 14 := Bx8.1
  have r9 : v9.2.1 = h.2.1 + 14 := Bx8.2.1
  have t9 : v9.2.2.1 = h.2.2.1 + 106 := Bx8.2.2.1
  refine xV.step rfl ?_
  refine xV.new xcl_ok (ci := 3) rfl rfl n_mN_init_43 (by omega) (by show v9.2.2.1 + 4 ≤ _; omega) ?_
  refine xV.step rfl ?_
  refine xV.callN rfl rfl g_mN_init_45 mR_init_ok (Nat.le_of_ble_eq_true rfl) (Nat.le_of_ble_eq_true rfl) (c_R_init (a := v9.1) (h := xnew v9 (.inr (3, xdf 3)) 4) new_get (Nat.lt_succ_self _) (by show v9.2.1 + 1 + 3 ≤ _; omega) (by show v9.2.2.1 + 4 + 15 ≤ _; omega)) (fun w x hz => ?_) (fun w x hz => by cases hz.1)
  obtain ⟨ez, rfl⟩ := hz
  cases ez
  have Bx9 := ((((Bx8.new hl (.inr (3, xdf 3)) 4).new hl (zI 5) 5).new hl (zI 5) 5).new hl (zI 5) 5).set hl 14 (Nat.le_of_ble_eq_true rfl) (.inr (3, roF (h.1 + 15) (h.1 + 16) (h.1 + 17) (nI 0)))
  show xV D N0 mN_init (d + 4) 96 _ [.ref v9.1, .ref a] (xput (xnew (xnew (xnew (xnew v9 (.inr (3, xdf 3)) 4) (zI 5) 5) (zI 5) 5) (zI 5) 5) v9.1 (.inr (3, roF (v9.1 + 1) (v9.1 + 1 + 1) (v9.1 + 1 + 2) (nI 0)))) _
  rw [e9]
  refine xV.put xcl_ok rfl Bx9.2.2.2.1 rfl rfl rfl (Nat.le_of_ble_eq_true rfl) ?_
  replace Bx9 := Bx9.put hl (((((((((((xdf 0).set 0 (.ref h.1)).set 1 (.ref (h.1 + 1))).set 2 (.ref (h.1 + 2))).set 3 (.ref (h.1 + 3))).set 4 (.ref (h.1 + 4))).set 5 (.ref (h.1 + 5))).set 6 (.ref (h.1 + 8))).set 7 (.ref (h.1 + 9))).set 8 (.ref (h.1 + 10))).set 9 (.ref (h.1 + 14)))
  generalize hg9 : xput (xput (xnew (xnew (xnew (xnew v9 (.inr (3, xdf 3)) 4) (zI 5) 5) (zI 5) 5) (zI 5) 5) (h.1 + 14) (.inr (3, roF (h.1 + 15) (h.1 + 16) (h.1 + 17) (nI 0)))) a (.inr (0, (((((((((((xdf 0).set 0 (.ref h.1)).set 1 (.ref (h.1 + 1))).set 2 (.ref (h.1 + 2))).set 3 (.ref (h.1 + 3))).set 4 (.ref (h.1 + 4))).set 5 (.ref (h.1 + 5))).set 6 (.ref (h.1 + 8))).set 7 (.ref (h.1 + 9))).set 8 (.ref (h.1 + 10))).set 9 (.ref (h.1 + 14))))) = v10 at Bx9 ⊢
  clear hg9
  refine xV.step rfl ?_
  refine xV.step rfl ?_
  refine xV.put xcl_ok rfl Bx9.2.2.2.1 rfl rfl rfl (Nat.le_of_ble_eq_true rfl) ?_
  have Bz := Bx9.put hl ((((((((((((xdf 0).set 0 (.ref h.1)).set 1 (.ref (h.1 + 1))).set 2 (.ref (h.1 + 2))).set 3 (.ref (h.1 + 3))).set 4 (.ref (h.1 + 4))).set 5 (.ref (h.1 + 5))).set 6 (.ref (h.1 + 8))).set 7 (.ref (h.1 + 9))).set 8 (.ref (h.1 + 10))).set 9 (.ref (h.1 + 14))).set 10 (.int 0))
  refine xV.step rfl ?_
  refine xV.step rfl ?_
  exact loop 6 0 rfl _ Bz
end Y79
