/- Part 99m: a method's table may be cut: the judgement looks only at the code. -/
section X99m
variable {D : va_G} {N0 d pc : Nat} {M M' : XM} {lv : XL} {st : List Value} {h : XH} {Q : Outcome → XH → Prop}
theorem xV.tab (h1 : M'.1 = M.1) (h2 : M'.2.1 = M.2.1) (h3 : M'.2.2.1 = M.2.2.1) (h4 : M'.2.2.2.1 = M.2.2.2.1) (h5 : M'.2.2.2.2.1 = M.2.2.2.2.1) (hok : xOK M' = true) (k : xV D N0 M' d pc lv st h Q) : xV D N0 M d pc lv st h Q := by
  intro p l e R s m args below meth c H locs cells slots ls C hH hR hL
  refine k p l e R s m args below meth c H locs cells slots ls ?_ hH hR (by rw [h3]; exact hL)
  obtain ⟨c1, c2, c3, c4, c5, c6, c7, c8, c9, c10, c11, c12, c13, c14, c15⟩ := C
  exact ⟨c1, by rw [h2]; exact c2, by rw [h3]; exact c3, by rw [h5]; exact c4, c5, by rw [h4]; exact c6, by rw [h1]; exact c7, by rw [h1]; exact c8, c9, c10, c11, c12, hok, c14, c15⟩
end X99m
theorem Rep.mget {E : RO → Nat} {dc m out : Nat} {S : CS} {A : MS} {g : Nat → Int64} {K0 : Nat → Option XC} {h : XH} (R : Rep E dc S (lKm m A out g K0) h) : xget h m = some (.inr (7, mfs m A.1)) := (R.2.2.1 (m + 0) _ (lK_m (k := 0) (by omega))).1
