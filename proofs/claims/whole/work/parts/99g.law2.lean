/- Part 99g: the law's net and model in one heap; a call of both. -/
/-- what lies beside the net: the model, the array out, and the rest -/
def lKm (m : Nat) (A : MS) (out : Nat) (g : Nat → Int64) (K0 : Nat → Option XC) : Nat → Option XC := fun q => if m ≤ q ∧ q ≤ m + 41 then some (mcell m A (q - m)) else if q = out then some (.inl (false, .long, 1, .inr (.inl g))) else K0 q
def lO (m out dc : Nat) : Prop := ¬ (m ≤ out ∧ out ≤ m + 41) ∧ ¬ (m ≤ dc ∧ dc ≤ m + 41) ∧ dc ≠ out
section X99g
variable {D : va_G} {N0 : Nat} {E : RO → Nat} {dc m out : Nat} {S : CS} {A A' : MS} {g : Nat → Int64} {K0 : Nat → Option XC} {h u : XH}
theorem lK_m {k : Nat} (hk : k ≤ 41) : lKm m A out g K0 (m + k) = some (mcell m A k) := by
  unfold lKm
  rw [if_pos ⟨Nat.le_add_right m k, by omega⟩, show m + k - m = k by omega]
theorem lK_o (hO : lO m out dc) : lKm m A out g K0 out = some (.inl (false, .long, 1, .inr (.inl g))) := by
  unfold lKm
  rw [if_neg hO.1, if_pos rfl]
theorem Rep.hmE (R : Rep E dc S (lKm m A out g K0) h) : hm m A h = h := by
  unfold hm
  refine Prod.ext rfl (Prod.ext rfl (Prod.ext rfl (funext (fun q => ?_))))
  simp only
  by_cases e : m ≤ q ∧ q ≤ m + 41
  · rw [if_pos e]
    have := (R.2.2.1 (m + (q - m)) _ (lK_m (by omega))).1
    rw [show m + (q - m) = q by omega] at this
    exact this.symm
  · rw [if_neg e]
theorem kDc_lK {A' : MS} {g' : Nat → Int64} (hO : lO m out dc) (h : kDc (lKm m A out g K0) dc) : kDc (lKm m A' out g' K0) dc := by
  obtain ⟨g0, e⟩ := h
  refine ⟨g0, ?_⟩
  unfold lKm at e ⊢
  rw [if_neg hO.2.1, if_neg hO.2.2] at e ⊢
  exact e
/-- the model changes -/
theorem Rep.mod (hO : lO m out dc) (R : Rep E dc S (lKm m A out g K0) h) (A' : MS) : Rep E dc S (lKm m A' out g K0) (hm m A' h) := by
  have nm : ∀ r, kV S.2.2.2 r → ¬ (m ≤ E r ∧ E r ≤ m + 41) := fun r hr z => by
    have := (R.2.2.1 (m + (E r - m)) _ (lK_m (by omega))).2 r hr
    exact this (by omega)
  have go : ∀ q, ¬ (m ≤ q ∧ q ≤ m + 41) → xget (hm m A' h) q = xget h q := fun q hq => by
    unfold xget hm
    simp only
    rw [if_neg hq]
  refine ⟨fun r hr => by rw [go _ (nm r hr)]; exact R.1 r hr, R.2.1, fun q c hq => ?_, kDc_lK hO R.2.2.2.1, R.2.2.2.2⟩
  by_cases e : m ≤ q ∧ q ≤ m + 41
  · refine ⟨?_, fun r hr z => nm r hr (by rw [z]; exact e)⟩
    unfold lKm at hq
    rw [if_pos e] at hq
    rw [← hq]
    unfold xget hm
    simp only
    rw [if_pos e]
  · have hq' : lKm m A out g K0 q = some c := by
      unfold lKm at hq ⊢
      rw [if_neg e] at hq ⊢
      exact hq
    rw [go q e]
    exact R.2.2.1 q c hq'
/-- the array out changes -/
theorem Rep.outp (hO : lO m out dc) (R : Rep E dc S (lKm m A out g K0) h) (g' : Nat → Int64) : Rep E dc S (lKm m A out g' K0) (xput h out (.inl (false, .long, 1, .inr (.inl g')))) := by
  have no : ∀ r, kV S.2.2.2 r → E r ≠ out := fun r hr => (R.2.2.1 out _ (lK_o hO)).2 r hr
  refine ⟨fun r hr => by rw [xput_ne (no r hr)]; exact R.1 r hr, R.2.1, fun q c hq => ?_, kDc_lK hO R.2.2.2.1, R.2.2.2.2⟩
  by_cases e : q = out
  · subst e
    rw [lK_o hO] at hq
    exact ⟨by rw [xput_get]; exact hq, no⟩
  · have hq' : lKm m A out g K0 q = some c := by
      unfold lKm at hq ⊢
      split at hq
      · rename_i z
        rw [if_pos z]
        exact hq
      · rename_i z
        rw [if_neg z, if_neg e]
        exact hq
    rw [xput_ne e]
    exact R.2.2.1 q c hq'
theorem Rep.outg (hO : lO m out dc) (R : Rep E dc S (lKm m A out g K0) h) : xget h out = some (.inl (false, .long, 1, .inr (.inl g))) := (R.2.2.1 out _ (lK_o hO)).1
/-- class and model after a call of the class -/
def lR (S : CS) (cl : List Nat) (c : Option Nat) (P : CS → Int64 → Prop) (k : Int32) (S' : CS) (y : Int64) : Prop := (∃ ci, c = some ci ∧ k = lco cl ci ∧ S' = S) ∨ (c = none ∧ k = 0 ∧ P S' y)
def lP1 (D : va_G) (E : RO → Nat) (A : MS) (m out : Nat) (K0 : Nat → Option XC) (h : XH) (R : Int32 → CS → Int64 → Prop) : Outcome → XH → Prop := fun o u => ∃ (k : Int32) (E' : RO → Nat) (S' : CS) (g' : Nat → Int64), o = .returned (some (.int k)) ∧ E' (0, 0, 0) = E (0, 0, 0) ∧ Rep E' (D.1 1000) S' (lKm m A out g' K0) u ∧ xMk h u 7 216 ∧ R k S' (g' 0)
def lP2 (m : Nat) (u : XH) (S' : CS) (y : Int64) (k : Int32) (W : Option Value → Int64 → Prop) : Outcome → XH → Prop := fun o w => ∃ (v : Option Value) (A' : MS), o = .returned v ∧ w = hm m A' u ∧ A'.1 0 = k ∧ Cpl S' A' ∧ (∃ y', W v y') ∧ (k = 0 → W v y)
def wI (v : Option Value) (y : Int64) : Prop := ∃ x : Int32, v = some (.int x) ∧ y = x.toInt64
def wJ (v : Option Value) (y : Int64) : Prop := v = some (.long y)
def wZ (v : Option Value) (y : Int64) : Prop := ∃ b : Bool, v = some (.int (xB b)) ∧ y = (xB b).toInt64
def wV (v : Option Value) (_ : Int64) : Prop := v = none
theorem lcl_x {ci : Nat} {cl : List Nat} {c : Option Nat} {P : CS → Int64 → Prop} (R : Rep E (D.1 1000) S (lKm m A out g K0) h) (wf : ∀ (a : Nat) (c : XC), xget h a = some c → a < h.1) (hc : c = some ci) : lP1 D E A m out K0 h (lR S cl c P) (.returned (some (.int (lco cl ci)))) (xnew h (.inr (ci, [])) 6) := by
  refine ⟨_, E, S, g, rfl, rfl, R.new0 wf, ⟨?_, ?_⟩, Or.inl ⟨ci, hc, rfl, rfl⟩⟩
  · show h.2.1 + 1 ≤ h.2.1 + 7
    omega
  · show h.2.2.1 + 6 ≤ h.2.2.1 + 216
    omega
theorem lcl_I {ML : XM} {d : Nat} {as : XL} {cl : List Nat} {c : Option Nat} {Q0 : Outcome → XH → Prop} {P : CS → Int64 → Prop} (hO : lO m out (D.1 1000)) (R : Rep E (D.1 1000) S (lKm m A out g K0) h) (hl : xV D N0 ML d 0 as [] h (lEnd cl c h Q0 (lOut out g))) (hQ : ∀ o u, Q0 o u → ∃ (x : Int32) (E' : RO → Nat) (S' : CS), o = .returned (some (.int x)) ∧ E' (0, 0, 0) = E (0, 0, 0) ∧ Rep E' (D.1 1000) S' (lKm m A out g K0) u ∧ xMk h u 7 216 ∧ P S' x.toInt64) : xV D N0 ML d 0 as [] h (lP1 D E A m out K0 h (lR S cl c P)) := by
  refine xV.wf (fun wf => xV.mono (fun o u hz => ?_) hl)
  rcases hz with ⟨ci, hc, rfl, rfl⟩ | ⟨hc, v, u0, hq, rfl, rfl⟩
  · exact lcl_x R wf hc
  · obtain ⟨x, E', S', e1, e2, e3, e4, e5⟩ := hQ _ _ hq
    cases e1
    exact ⟨0, E', S', vp_updL g 0 x.toInt64, rfl, e2, e3.outp hO _, e4, Or.inr ⟨hc, rfl, by simp only [vp_updL, if_true]; exact e5⟩⟩
theorem lcl_J {ML : XM} {d : Nat} {as : XL} {cl : List Nat} {c : Option Nat} {Q0 : Outcome → XH → Prop} {P : CS → Int64 → Prop} (hO : lO m out (D.1 1000)) (R : Rep E (D.1 1000) S (lKm m A out g K0) h) (hl : xV D N0 ML d 0 as [] h (lEnd cl c h Q0 (lOut out g))) (hQ : ∀ o u, Q0 o u → ∃ (x : Int64) (E' : RO → Nat) (S' : CS), o = .returned (some (.long x)) ∧ E' (0, 0, 0) = E (0, 0, 0) ∧ Rep E' (D.1 1000) S' (lKm m A out g K0) u ∧ xMk h u 7 216 ∧ P S' x) : xV D N0 ML d 0 as [] h (lP1 D E A m out K0 h (lR S cl c P)) := by
  refine xV.wf (fun wf => xV.mono (fun o u hz => ?_) hl)
  rcases hz with ⟨ci, hc, rfl, rfl⟩ | ⟨hc, v, u0, hq, rfl, rfl⟩
  · exact lcl_x R wf hc
  · obtain ⟨x, E', S', e1, e2, e3, e4, e5⟩ := hQ _ _ hq
    cases e1
    exact ⟨0, E', S', vp_updL g 0 x, rfl, e2, e3.outp hO _, e4, Or.inr ⟨hc, rfl, by simp only [vp_updL, if_true]; exact e5⟩⟩
theorem lcl_V {ML : XM} {d : Nat} {as : XL} {cl : List Nat} {c : Option Nat} {Q0 : Outcome → XH → Prop} {P : CS → Int64 → Prop} (R : Rep E (D.1 1000) S (lKm m A out g K0) h) (hl : xV D N0 ML d 0 as [] h (lEnd cl c h Q0 (fun _ u => u))) (hQ : ∀ o u, Q0 o u → ∃ (E' : RO → Nat) (S' : CS), E' (0, 0, 0) = E (0, 0, 0) ∧ Rep E' (D.1 1000) S' (lKm m A out g K0) u ∧ xMk h u 7 216 ∧ ∀ y, P S' y) : xV D N0 ML d 0 as [] h (lP1 D E A m out K0 h (lR S cl c P)) := by
  refine xV.wf (fun wf => xV.mono (fun o u hz => ?_) hl)
  rcases hz with ⟨ci, hc, rfl, rfl⟩ | ⟨hc, v, u0, hq, rfl, rfl⟩
  · exact lcl_x R wf hc
  · obtain ⟨E', S', e2, e3, e4, e5⟩ := hQ _ _ hq
    exact ⟨0, E', S', g, rfl, e2, e3, e4, Or.inr ⟨hc, rfl, e5 _⟩⟩
theorem lmo {MM : XM} {d : Nat} {as : XL} {cl : List Nat} {c : Option Nat} {P : CS → Int64 → Prop} {Qm : Outcome → XH → Prop} {W : Option Value → Int64 → Prop} {t k : Int32} {S' : CS} {y : Int64} (h1 : xV D N0 MM d 0 as [] (hm m A u) Qm) (hQ : ∀ o w, Qm o w → (t ≠ 0 ∧ ∃ v, o = .returned v ∧ (∃ y, W v y) ∧ w = hm m (mF A 0 t) u) ∨ (t = 0 ∧ ∃ v A', o = .returned v ∧ w = hm m A' u ∧ A'.1 0 = 0 ∧ (∃ y, W v y) ∧ (c = none → ∀ S' y, P S' y → Cpl S' A' ∧ W v y))) (ht : t = cd cl c) (hcl : ∀ ci, c = some ci → lco cl ci ≠ 0) (C : Cpl S A) (hR : lR S cl c P k S' y) : xV D N0 MM d 0 as [] (hm m A u) (lP2 m u S' y k W) := by
  refine xV.mono (fun o w hz => ?_) h1
  rcases hQ o w hz with ⟨ht0, v, rfl, hw, rfl⟩ | ⟨ht0, v, A', rfl, rfl, h0, hw, hP⟩
  · rcases hR with ⟨ci, hc, rfl, rfl⟩ | ⟨hc, rfl, hp⟩
    · rw [hc] at ht
      refine ⟨v, mF A 0 t, rfl, rfl, ht, C.F0 t, hw, fun z => ?_⟩
      exact absurd z (hcl ci hc)
    · rw [hc] at ht
      exact absurd ht ht0
  · rcases hR with ⟨ci, hc, rfl, rfl⟩ | ⟨hc, rfl, hp⟩
    · rw [hc] at ht
      rw [ht0] at ht
      exact absurd ht.symm (hcl ci hc)
    · obtain ⟨q1, q2⟩ := hP hc S' y hp
      exact ⟨v, A', rfl, rfl, h0, q1, hw, fun _ => q2⟩
theorem lmo2 {MM : XM} {d : Nat} {as : XL} {cl : List Nat} {c : Option Nat} {P : CS → Int64 → Prop} {W : Option Value → Int64 → Prop} {t k : Int32} {S' : CS} {y : Int64} {v1 v2 : Option Value} {A' : MS} (h1 : xV D N0 MM d 0 as [] (hm m A u) (xTw t (.returned v1) (hm m (mF A 0 t) u) (.returned v2) (hm m A' u))) (hv1 : ∃ y, W v1 y) (hv2 : ∃ y, W v2 y) (h0 : A'.1 0 = 0) (hP : c = none → ∀ S' y, P S' y → Cpl S' A' ∧ W v2 y) (ht : t = cd cl c) (hcl : ∀ ci, c = some ci → lco cl ci ≠ 0) (C : Cpl S A) (hR : lR S cl c P k S' y) : xV D N0 MM d 0 as [] (hm m A u) (lP2 m u S' y k W) := by
  refine lmo h1 (fun o w hz => ?_) ht hcl C hR
  rcases hz with ⟨z1, z2, z3⟩ | ⟨z1, z2, z3⟩
  · exact Or.inl ⟨z1, v1, z2, hv1, z3⟩
  · exact Or.inr ⟨z1, v2, A', z2, z3, h0, hv2, hP⟩
end X99g
theorem Cpl.cOK {S : CS} {A : MS} (C : Cpl S A) : cOK S := by
  refine ⟨fun j hj => ?_, fun j k hj hk => ?_⟩
  · have cc := C.2.2.1.2.2.1 j hj
    have := cc.2.1.2.1
    have := cc.2.1.2.2.2
    exact ⟨cc.1.two.1, cc.1.two.2, cc.2.1.2.1, by show kn S j ≤ 64; omega⟩
  · have cc := C.2.2.1.2.2.1 j hj
    obtain ⟨r, r1, r2, r3, r4, r5, r6, r7⟩ := cc.2.2.2.2.2.1.ends cc.1 hk
    obtain ⟨t1, t2⟩ := cc.1.two
    refine ⟨?_, ?_⟩
    · show kq S j k 0 < 6
      rw [r3]
      rcases Nat.lt_or_ge r 1 with z | z
      · rw [show r = 0 by omega]
        exact t1
      · rw [show r = 1 by omega]
        exact t2
    · show kq S j k 1 < 6
      rw [r4]
      rcases Nat.lt_or_ge r 1 with z | z
      · rw [show 1 - r = 1 by omega]
        exact t2
      · rw [show 1 - r = 0 by omega]
        exact t1
theorem Cpl.srOK {S : CS} {A : MS} (C : Cpl S A) : srOK S := ⟨C.cOK, C.2.2.1.2.1⟩
theorem xSz.mk {h u : XH} (z : xSz h u) : xMk h u 7 216 := ⟨by rw [z.2.1]; omega, by rw [z.2.2]; omega⟩
theorem xMk.up {h u : XH} {a b : Nat} (z : xMk h u a b) (ha : a ≤ 7) (hb : b ≤ 216) : xMk h u 7 216 := ⟨by have := z.1; omega, by have := z.2; omega⟩
theorem lco8 {cl : List Nat} {ci : Nat} : ci = 8 ∨ ci = 9 ∨ ci = 10 → (cl = [8, 9, 10] → lco cl ci ≠ 0) := by
  rintro (rfl | rfl | rfl) rfl <;> decide
