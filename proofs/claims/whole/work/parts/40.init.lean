/- Part 40: new arrays; the model's constructor. -/
theorem w_arrI : xW (.arrayClass .int) := xW_tab (i := 47) rfl rfl
theorem w_arrZ : xW (.arrayClass .boolean) := xW_tab (i := 48) rfl rfl
theorem w_arrJ : xW (.arrayClass .long) := xW_tab (i := 49) rfl rfl
def msum : Nat → Nat
  | 0 => 0
  | k + 1 => msum k + mlen (k + 1)
def hk (m k : Nat) (A : MS) (fs : List Value) (h : XH) : XH := (h.1 + k, h.2.1 + k, h.2.2.1 + msum k, fun q => if q = m then some (.inr (7, fs)) else if m < q ∧ q ≤ m + k then some (mcell m A (q - m)) else h.2.2.2 q)
def rk (m k j : Nat) : Value := bif Nat.ble j k then .ref (m + j) else .null
def fsk (m k : Nat) : List Value := [.int 0, rk m k 1, rk m k 2, rk m k 3, rk m k 4, rk m k 5, .int 0, .int 0, rk m k 6, rk m k 7, rk m k 8, rk m k 9, rk m k 10, rk m k 11, rk m k 12, rk m k 13, rk m k 14, rk m k 15, rk m k 16, rk m k 17, rk m k 18, rk m k 19, rk m k 20, rk m k 21, rk m k 22, .int 0, rk m k 23, rk m k 24, .int 0, rk m k 25, .int 0, rk m k 26, rk m k 27, rk m k 28, .int 0, rk m k 29, rk m k 30, rk m k 31, rk m k 32, rk m k 33, rk m k 34, rk m k 35, rk m k 36, rk m k 37, rk m k 38, rk m k 39, rk m k 40, rk m k 41]
def mZero : MS := (fun _ => 0, fun _ _ => 0, fun _ _ => 0)
def mInit : MS := mI (mI (mI (mI (mI (mI (mI (mI (mI (mI (mI (mI (mI (mI (mI (mI (mI (mI (mI (mI (mI (mI (mI (mI (mI (mI (mI (mI (mZero) 1 0 1000000) 1 1 1000000) 1 2 1000000) 1 3 1000000) 1 4 1000000) 1 5 1000000) 4 0 1) 4 1 1) 4 2 1) 4 3 1) 4 4 1) 4 5 1) 18 0 (-1)) 18 1 (-1)) 18 2 (-1)) 18 3 (-1)) 18 4 (-1)) 18 5 (-1)) 18 6 (-1)) 18 7 (-1)) 20 0 (-1)) 20 1 (-1)) 20 2 (-1)) 20 3 (-1)) 20 4 (-1)) 20 5 (-1)) 20 6 (-1)) 20 7 (-1)
theorem hk_new {m k N : Nat} {A : MS} {fs : List Value} {h : XH} {c : XC} (hh : h.1 = m + 1) (hc : mcell m A (k + 1) = c) (hN : mlen (k + 1) = N) : xnew (hk m k A fs h) c N = hk m (k + 1) A fs h := by
  unfold xnew hk
  refine Prod.ext rfl (Prod.ext rfl (Prod.ext ?_ ?_))
  · show h.2.2.1 + msum k + N = h.2.2.1 + (msum k + mlen (k + 1))
    omega
  · funext q
    simp only
    by_cases h1 : q = h.1 + k
    · have : q - m = k + 1 := by omega
      rw [if_pos h1, if_neg (by omega), if_pos (by omega), this, hc]
    · rw [if_neg h1]
      by_cases h2 : q = m
      · rw [if_pos h2, if_pos h2]
      · rw [if_neg h2, if_neg h2]
        by_cases h3 : m < q ∧ q ≤ m + k
        · rw [if_pos h3, if_pos (by omega)]
        · rw [if_neg h3, if_neg (by omega)]
theorem hk_get {m k j : Nat} {A : MS} {fs : List Value} {h : XH} (hj : j < k) : xget (hk m k A fs h) (m + (j + 1)) = some (mcell m A (j + 1)) := by
  unfold xget hk
  simp only
  rw [if_neg (by omega), if_pos (by omega)]
  congr 2
  omega
theorem hk_put {m k j : Nat} {A A' : MS} {fs : List Value} {h : XH} {c : XC} (hj : j < k) (h1 : mcell m A' (j + 1) = c) (h2 : ∀ i, i ≠ j + 1 → mcell m A' i = mcell m A i) : xput (hk m k A fs h) (m + (j + 1)) c = hk m k A' fs h := by
  unfold xput hk
  refine Prod.ext rfl (Prod.ext rfl (Prod.ext rfl ?_))
  funext q
  simp only
  by_cases hq : q = m + (j + 1)
  · subst hq
    rw [if_pos rfl, if_neg (by omega), if_pos (by omega), show m + (j + 1) - m = j + 1 by omega, h1]
  · rw [if_neg hq]
    by_cases h3 : q = m
    · rw [if_pos h3, if_pos h3]
    · rw [if_neg h3, if_neg h3]
      by_cases hr : m < q ∧ q ≤ m + k
      · rw [if_pos hr, if_pos hr, h2 (q - m) (by omega)]
      · rw [if_neg hr, if_neg hr]
theorem hk_fs {m k : Nat} {A : MS} {fs fs' : List Value} {h : XH} : xput (hk m k A fs h) m (.inr (7, fs')) = hk m k A fs' h := by
  unfold xput hk
  refine Prod.ext rfl (Prod.ext rfl (Prod.ext rfl ?_))
  funext q
  simp only
  by_cases hq : q = m
  · rw [if_pos hq, if_pos hq]
  · rw [if_neg hq, if_neg hq, if_neg hq]
section X40
variable {D : va_G} {N0 : Nat} {M : XM} {d pc m : Nat} {lv : XL} {st : List Value} {h : XH} {A : MS} {Q : Outcome → XH → Prop}
theorem xV.nwI {n : Int32} {N nx : Nat} {r : List Value} (hq : xon M pc = some (.newarray .int, nx)) (hn : n = nI N) (hN : N ≤ 1024) (hc1 : h.2.1 + 1 ≤ xCmax) (hc2 : h.2.2.1 + N ≤ xSmax) (k : xV D N0 M d nx lv (.ref h.1 :: r) (xnew h (.inl (false, .int, N, .inl fun _ => 0)) N) Q) : xV D N0 M d pc lv (.int n :: r) h Q :=
  xV.newa (A0 := (N, .inl fun _ => 0)) hq rfl w_arrI (fun _ => rfl) (fun _ _ hz => hz) (by rw [hn]; exact xn_nonneg (by omega)) (by rw [hn]; exact xn_clamp (by omega)) (by show N * 4 ≤ _; omega) hc1 hc2 k
theorem xV.nwZ {n : Int32} {N nx : Nat} {r : List Value} (hq : xon M pc = some (.newarray .boolean, nx)) (hn : n = nI N) (hN : N ≤ 1024) (hc1 : h.2.1 + 1 ≤ xCmax) (hc2 : h.2.2.1 + N ≤ xSmax) (k : xV D N0 M d nx lv (.ref h.1 :: r) (xnew h (.inl (false, .boolean, N, .inl fun _ => 0)) N) Q) : xV D N0 M d pc lv (.int n :: r) h Q :=
  xV.newa (A0 := (N, .inl fun _ => 0)) hq rfl w_arrZ (fun _ => rfl) (fun _ _ hz => hz) (by rw [hn]; exact xn_nonneg (by omega)) (by rw [hn]; exact xn_clamp (by omega)) (by show N * 1 ≤ _; omega) hc1 hc2 k
theorem xV.nwJ {n : Int32} {N nx : Nat} {r : List Value} (hq : xon M pc = some (.newarray .long, nx)) (hn : n = nI N) (hN : N ≤ 1024) (hc1 : h.2.1 + 1 ≤ xCmax) (hc2 : h.2.2.1 + N ≤ xSmax) (k : xV D N0 M d nx lv (.ref h.1 :: r) (xnew h (.inl (false, .long, N, .inr (.inl fun _ => 0))) N) Q) : xV D N0 M d pc lv (.int n :: r) h Q :=
  xV.newa (A0 := (N, .inr (.inl fun _ => 0))) hq rfl w_arrJ (fun _ => rfl) (fun _ _ hz => hz) (by rw [hn]; exact xn_nonneg (by omega)) (by rw [hn]; exact xn_clamp (by omega)) (by show N * 8 ≤ _; omega) hc1 hc2 k
def kok (m k : Nat) (h : XH) : Prop := h.1 = m + 1 ∧ h.2.1 + 41 ≤ xCmax ∧ h.2.2.1 + 4400 ≤ xSmax
theorem msum_le {k N : Nat} (hb : (Nat.ble k 40 && Nat.ble (msum k + N) 4400) = true) : k + 1 ≤ 41 ∧ msum k + N ≤ 4400 := by
  rw [Bool.and_eq_true] at hb
  have h1 := Nat.le_of_ble_eq_true hb.1
  have h2 := Nat.le_of_ble_eq_true hb.2
  omega
theorem xV.kI {k nx N : Nat} {n : Int32} {fs r : List Value} (hK : kok m k h) (hq : xon M pc = some (.newarray .int, nx)) (hc : mcell m A (k + 1) = .inl (false, .int, N, .inl fun _ => 0)) (hl : mlen (k + 1) = N) (hn : n = nI N) (hN : Nat.ble N 1024 = true) (hb : (Nat.ble k 40 && Nat.ble (msum k + N) 4400) = true) (kk : xV D N0 M d nx lv (.ref (m + (k + 1)) :: r) (hk m (k + 1) A fs h) Q) : xV D N0 M d pc lv (.int n :: r) (hk m k A fs h) Q := by
  obtain ⟨h1, h2, h3⟩ := hK
  obtain ⟨b1, b2⟩ := msum_le hb
  refine xV.nwI hq hn (Nat.le_of_ble_eq_true hN) (by show h.2.1 + k + 1 ≤ _; omega) (by show h.2.2.1 + msum k + N ≤ _; omega) ?_
  rw [hk_new h1 hc hl, show (hk m k A fs h).1 = m + (k + 1) by show h.1 + k = _; omega]
  exact kk
theorem xV.kZ {k nx N : Nat} {n : Int32} {fs r : List Value} (hK : kok m k h) (hq : xon M pc = some (.newarray .boolean, nx)) (hc : mcell m A (k + 1) = .inl (false, .boolean, N, .inl fun _ => 0)) (hl : mlen (k + 1) = N) (hn : n = nI N) (hN : Nat.ble N 1024 = true) (hb : (Nat.ble k 40 && Nat.ble (msum k + N) 4400) = true) (kk : xV D N0 M d nx lv (.ref (m + (k + 1)) :: r) (hk m (k + 1) A fs h) Q) : xV D N0 M d pc lv (.int n :: r) (hk m k A fs h) Q := by
  obtain ⟨h1, h2, h3⟩ := hK
  obtain ⟨b1, b2⟩ := msum_le hb
  refine xV.nwZ hq hn (Nat.le_of_ble_eq_true hN) (by show h.2.1 + k + 1 ≤ _; omega) (by show h.2.2.1 + msum k + N ≤ _; omega) ?_
  rw [hk_new h1 hc hl, show (hk m k A fs h).1 = m + (k + 1) by show h.1 + k = _; omega]
  exact kk
theorem xV.kJ {k nx N : Nat} {n : Int32} {fs r : List Value} (hK : kok m k h) (hq : xon M pc = some (.newarray .long, nx)) (hc : mcell m A (k + 1) = .inl (false, .long, N, .inr (.inl fun _ => 0))) (hl : mlen (k + 1) = N) (hn : n = nI N) (hN : Nat.ble N 1024 = true) (hb : (Nat.ble k 40 && Nat.ble (msum k + N) 4400) = true) (kk : xV D N0 M d nx lv (.ref (m + (k + 1)) :: r) (hk m (k + 1) A fs h) Q) : xV D N0 M d pc lv (.int n :: r) (hk m k A fs h) Q := by
  obtain ⟨h1, h2, h3⟩ := hK
  obtain ⟨b1, b2⟩ := msum_le hb
  refine xV.nwJ hq hn (Nat.le_of_ble_eq_true hN) (by show h.2.1 + k + 1 ≤ _; omega) (by show h.2.2.1 + msum k + N ≤ _; omega) ?_
  rw [hk_new h1 hc hl, show (hk m k A fs h).1 = m + (k + 1) by show h.1 + k = _; omega]
  exact kk
theorem xV.kP {k nx idx kf : Nat} {ty : FieldType} {v : Value} {fs fs' r : List Value} (hq : xfl M pc = some (.putfield idx, nx, 7, kf)) (hty : (xct 7)[kf]? = some ty) (hn : narrow ty v = v) (hft : fits ty v = true) (hl : Nat.blt kf fs.length = true) (hf : fs.set kf v = fs') (kk : xV D N0 M d nx lv r (hk m k A fs' h) Q) : xV D N0 M d pc lv (v :: .ref m :: r) (hk m k A fs h) Q := by
  refine xV.put xcl_ok hq (a := m) (fs := fs) ?_ hty hn hft (Nat.le_of_ble_eq_true hl) ?_
  · show (if m = m then _ else _) = _
    rw [if_pos rfl]
  · rw [hf, hk_fs]
    exact kk
theorem xV.kS {k j i nx N : Nat} {w x : Int32} {f : Nat → Int32} {fs r : List Value} (hq : xon M pc = some (.iastore, nx)) (hc : mcell m A (j + 1) = .inl (false, .int, N, .inl f)) (hc' : mcell m (mI A (j + 1) i x) (j + 1) = .inl (false, .int, N, .inl (upd f i x))) (hw : w = nI i) (hi : Nat.blt i N = true) (hN : Nat.ble N 1024 = true) (hj : Nat.blt j k = true) (kk : xV D N0 M d nx lv r (hk m k (mI A (j + 1) i x) fs h) Q) : xV D N0 M d pc lv (.int x :: .int w :: .ref (m + (j + 1)) :: r) (hk m k A fs h) Q := by
  subst hw
  have hi := Nat.le_of_ble_eq_true hi
  have hN := Nat.le_of_ble_eq_true hN
  have hj : j < k := Nat.le_of_ble_eq_true hj
  have e : (nI i).toNatClampNeg = i := xn_clamp (by omega)
  refine xV.iast hq (by rw [hk_get hj, hc]) (xn_in hi (by omega)) ?_
  rw [e, hk_put (A' := mI A (j + 1) i x) hj hc' (mcell_mI m A (j + 1) i x)]
  exact kk
end X40
section Y40
variable {D : va_G} {N0 : Nat} {d m : Nat} {h : XH}
set_option maxRecDepth 100000 in
theorem c_M_init_0 (hK : kok m 0 h) : xV D N0 mM_init (d + 1) 4 (xargs 1 [.ref m]) [] (hk m 0 mZero (fsk m 0) h) (xEq (.returned none) (hk m 41 mInit (fsk m 41) h)) := by
  refine xV.step rfl ?_
  refine xV.step rfl ?_
  refine xV.kI (k := 0) hK rfl rfl rfl rfl rfl rfl ?_
  refine xV.step rfl ?_
  refine xV.step rfl ?_
  refine xV.step rfl ?_
  refine xV.kS (k := 1) (j := 0) (i := 0) rfl rfl rfl rfl rfl rfl rfl ?_
  refine xV.step rfl ?_
  refine xV.step rfl ?_
  refine xV.step rfl ?_
  refine xV.kS (k := 1) (j := 0) (i := 1) rfl rfl rfl rfl rfl rfl rfl ?_
  refine xV.step rfl ?_
  refine xV.step rfl ?_
  refine xV.step rfl ?_
  refine xV.kS (k := 1) (j := 0) (i := 2) rfl rfl rfl rfl rfl rfl rfl ?_
  refine xV.step rfl ?_
  refine xV.step rfl ?_
  refine xV.step rfl ?_
  refine xV.kS (k := 1) (j := 0) (i := 3) rfl rfl rfl rfl rfl rfl rfl ?_
  refine xV.step rfl ?_
  refine xV.step rfl ?_
  refine xV.step rfl ?_
  refine xV.kS (k := 1) (j := 0) (i := 4) rfl rfl rfl rfl rfl rfl rfl ?_
  refine xV.step rfl ?_
  refine xV.step rfl ?_
  refine xV.step rfl ?_
  refine xV.kS (k := 1) (j := 0) (i := 5) rfl rfl rfl rfl rfl rfl rfl ?_
  refine xV.kP (k := 1) (fs' := fsk m 1) rfl rfl rfl rfl rfl rfl ?_
  refine xV.step rfl ?_
  refine xV.step rfl ?_
  refine xV.kI (k := 1) hK rfl rfl rfl rfl rfl rfl ?_
  refine xV.kP (k := 2) (fs' := fsk m 2) rfl rfl rfl rfl rfl rfl ?_
  refine xV.step rfl ?_
  refine xV.step rfl ?_
  refine xV.kI (k := 2) hK rfl rfl rfl rfl rfl rfl ?_
  refine xV.kP (k := 3) (fs' := fsk m 3) rfl rfl rfl rfl rfl rfl ?_
  refine xV.step rfl ?_
  refine xV.step rfl ?_
  refine xV.kI (k := 3) hK rfl rfl rfl rfl rfl rfl ?_
  refine xV.step rfl ?_
  refine xV.step rfl ?_
  refine xV.step rfl ?_
  refine xV.kS (k := 4) (j := 3) (i := 0) rfl rfl rfl rfl rfl rfl rfl ?_
  refine xV.step rfl ?_
  refine xV.step rfl ?_
  refine xV.step rfl ?_
  refine xV.kS (k := 4) (j := 3) (i := 1) rfl rfl rfl rfl rfl rfl rfl ?_
  refine xV.step rfl ?_
  refine xV.step rfl ?_
  refine xV.step rfl ?_
  refine xV.kS (k := 4) (j := 3) (i := 2) rfl rfl rfl rfl rfl rfl rfl ?_
  refine xV.step rfl ?_
  refine xV.step rfl ?_
  refine xV.step rfl ?_
  refine xV.kS (k := 4) (j := 3) (i := 3) rfl rfl rfl rfl rfl rfl rfl ?_
  refine xV.step rfl ?_
  refine xV.step rfl ?_
  refine xV.step rfl ?_
  refine xV.kS (k := 4) (j := 3) (i := 4) rfl rfl rfl rfl rfl rfl rfl ?_
  refine xV.step rfl ?_
  refine xV.step rfl ?_
  refine xV.step rfl ?_
  refine xV.kS (k := 4) (j := 3) (i := 5) rfl rfl rfl rfl rfl rfl rfl ?_
  refine xV.kP (k := 4) (fs' := fsk m 4) rfl rfl rfl rfl rfl rfl ?_
  refine xV.step rfl ?_
  refine xV.step rfl ?_
  refine xV.kZ (k := 4) hK rfl rfl rfl rfl rfl rfl ?_
  refine xV.kP (k := 5) (fs' := fsk m 5) rfl rfl rfl rfl rfl rfl ?_
  refine xV.step rfl ?_
  refine xV.step rfl ?_
  refine xV.kI (k := 5) hK rfl rfl rfl rfl rfl rfl ?_
  refine xV.kP (k := 6) (fs' := fsk m 6) rfl rfl rfl rfl rfl rfl ?_
  refine xV.step rfl ?_
  refine xV.step rfl ?_
  refine xV.kI (k := 6) hK rfl rfl rfl rfl rfl rfl ?_
  refine xV.kP (k := 7) (fs' := fsk m 7) rfl rfl rfl rfl rfl rfl ?_
  refine xV.step rfl ?_
  refine xV.step rfl ?_
  refine xV.kI (k := 7) hK rfl rfl rfl rfl rfl rfl ?_
  refine xV.kP (k := 8) (fs' := fsk m 8) rfl rfl rfl rfl rfl rfl ?_
  refine xV.step rfl ?_
  refine xV.step rfl ?_
  refine xV.kI (k := 8) hK rfl rfl rfl rfl rfl rfl ?_
  refine xV.kP (k := 9) (fs' := fsk m 9) rfl rfl rfl rfl rfl rfl ?_
  refine xV.step rfl ?_
  refine xV.step rfl ?_
  refine xV.kI (k := 9) hK rfl rfl rfl rfl rfl rfl ?_
  refine xV.kP (k := 10) (fs' := fsk m 10) rfl rfl rfl rfl rfl rfl ?_
  refine xV.step rfl ?_
  refine xV.step rfl ?_
  refine xV.kJ (k := 10) hK rfl rfl rfl rfl rfl rfl ?_
  refine xV.kP (k := 11) (fs' := fsk m 11) rfl rfl rfl rfl rfl rfl ?_
  refine xV.step rfl ?_
  refine xV.step rfl ?_
  refine xV.kI (k := 11) hK rfl rfl rfl rfl rfl rfl ?_
  refine xV.kP (k := 12) (fs' := fsk m 12) rfl rfl rfl rfl rfl rfl ?_
  refine xV.step rfl ?_
  refine xV.step rfl ?_
  refine xV.kI (k := 12) hK rfl rfl rfl rfl rfl rfl ?_
  refine xV.kP (k := 13) (fs' := fsk m 13) rfl rfl rfl rfl rfl rfl ?_
  refine xV.step rfl ?_
  refine xV.step rfl ?_
  refine xV.kI (k := 13) hK rfl rfl rfl rfl rfl rfl ?_
  refine xV.kP (k := 14) (fs' := fsk m 14) rfl rfl rfl rfl rfl rfl ?_
  refine xV.step rfl ?_
  refine xV.step rfl ?_
  refine xV.kI (k := 14) hK rfl rfl rfl rfl rfl rfl ?_
  refine xV.kP (k := 15) (fs' := fsk m 15) rfl rfl rfl rfl rfl rfl ?_
  refine xV.step rfl ?_
  refine xV.step rfl ?_
  refine xV.kJ (k := 15) hK rfl rfl rfl rfl rfl rfl ?_
  refine xV.kP (k := 16) (fs' := fsk m 16) rfl rfl rfl rfl rfl rfl ?_
  refine xV.step rfl ?_
  refine xV.step rfl ?_
  refine xV.kI (k := 16) hK rfl rfl rfl rfl rfl rfl ?_
  refine xV.kP (k := 17) (fs' := fsk m 17) rfl rfl rfl rfl rfl rfl ?_
  refine xV.step rfl ?_
  refine xV.step rfl ?_
  refine xV.kI (k := 17) hK rfl rfl rfl rfl rfl rfl ?_
  refine xV.step rfl ?_
  refine xV.step rfl ?_
  refine xV.step rfl ?_
  refine xV.kS (k := 18) (j := 17) (i := 0) rfl rfl rfl rfl rfl rfl rfl ?_
  refine xV.step rfl ?_
  refine xV.step rfl ?_
  refine xV.step rfl ?_
  refine xV.kS (k := 18) (j := 17) (i := 1) rfl rfl rfl rfl rfl rfl rfl ?_
  refine xV.step rfl ?_
  refine xV.step rfl ?_
  refine xV.step rfl ?_
  refine xV.kS (k := 18) (j := 17) (i := 2) rfl rfl rfl rfl rfl rfl rfl ?_
  refine xV.step rfl ?_
  refine xV.step rfl ?_
  refine xV.step rfl ?_
  refine xV.kS (k := 18) (j := 17) (i := 3) rfl rfl rfl rfl rfl rfl rfl ?_
  refine xV.step rfl ?_
  refine xV.step rfl ?_
  refine xV.step rfl ?_
  refine xV.kS (k := 18) (j := 17) (i := 4) rfl rfl rfl rfl rfl rfl rfl ?_
  refine xV.step rfl ?_
  refine xV.step rfl ?_
  refine xV.step rfl ?_
  refine xV.kS (k := 18) (j := 17) (i := 5) rfl rfl rfl rfl rfl rfl rfl ?_
  refine xV.step rfl ?_
  refine xV.step rfl ?_
  refine xV.step rfl ?_
  refine xV.kS (k := 18) (j := 17) (i := 6) rfl rfl rfl rfl rfl rfl rfl ?_
  refine xV.step rfl ?_
  refine xV.step rfl ?_
  refine xV.step rfl ?_
  refine xV.kS (k := 18) (j := 17) (i := 7) rfl rfl rfl rfl rfl rfl rfl ?_
  refine xV.kP (k := 18) (fs' := fsk m 18) rfl rfl rfl rfl rfl rfl ?_
  refine xV.step rfl ?_
  refine xV.step rfl ?_
  refine xV.kI (k := 18) hK rfl rfl rfl rfl rfl rfl ?_
  refine xV.kP (k := 19) (fs' := fsk m 19) rfl rfl rfl rfl rfl rfl ?_
  refine xV.step rfl ?_
  refine xV.step rfl ?_
  refine xV.kI (k := 19) hK rfl rfl rfl rfl rfl rfl ?_
  refine xV.step rfl ?_
  refine xV.step rfl ?_
  refine xV.step rfl ?_
  refine xV.kS (k := 20) (j := 19) (i := 0) rfl rfl rfl rfl rfl rfl rfl ?_
  refine xV.step rfl ?_
  refine xV.step rfl ?_
  refine xV.step rfl ?_
  refine xV.kS (k := 20) (j := 19) (i := 1) rfl rfl rfl rfl rfl rfl rfl ?_
  refine xV.step rfl ?_
  refine xV.step rfl ?_
  refine xV.step rfl ?_
  refine xV.kS (k := 20) (j := 19) (i := 2) rfl rfl rfl rfl rfl rfl rfl ?_
  refine xV.step rfl ?_
  refine xV.step rfl ?_
  refine xV.step rfl ?_
  refine xV.kS (k := 20) (j := 19) (i := 3) rfl rfl rfl rfl rfl rfl rfl ?_
  refine xV.step rfl ?_
  refine xV.step rfl ?_
  refine xV.step rfl ?_
  refine xV.kS (k := 20) (j := 19) (i := 4) rfl rfl rfl rfl rfl rfl rfl ?_
  refine xV.step rfl ?_
  refine xV.step rfl ?_
  refine xV.step rfl ?_
  refine xV.kS (k := 20) (j := 19) (i := 5) rfl rfl rfl rfl rfl rfl rfl ?_
  refine xV.step rfl ?_
  refine xV.step rfl ?_
  refine xV.step rfl ?_
  refine xV.kS (k := 20) (j := 19) (i := 6) rfl rfl rfl rfl rfl rfl rfl ?_
  refine xV.step rfl ?_
  refine xV.step rfl ?_
  refine xV.step rfl ?_
  refine xV.kS (k := 20) (j := 19) (i := 7) rfl rfl rfl rfl rfl rfl rfl ?_
  refine xV.kP (k := 20) (fs' := fsk m 20) rfl rfl rfl rfl rfl rfl ?_
  refine xV.step rfl ?_
  refine xV.step rfl ?_
  refine xV.kJ (k := 20) hK rfl rfl rfl rfl rfl rfl ?_
  refine xV.kP (k := 21) (fs' := fsk m 21) rfl rfl rfl rfl rfl rfl ?_
  refine xV.step rfl ?_
  refine xV.step rfl ?_
  refine xV.kZ (k := 21) hK rfl rfl rfl rfl rfl rfl ?_
  refine xV.kP (k := 22) (fs' := fsk m 22) rfl rfl rfl rfl rfl rfl ?_
  refine xV.step rfl ?_
  refine xV.step rfl ?_
  refine xV.kJ (k := 22) hK rfl rfl rfl rfl rfl rfl ?_
  refine xV.kP (k := 23) (fs' := fsk m 23) rfl rfl rfl rfl rfl rfl ?_
  refine xV.step rfl ?_
  refine xV.step rfl ?_
  refine xV.kI (k := 23) hK rfl rfl rfl rfl rfl rfl ?_
  refine xV.kP (k := 24) (fs' := fsk m 24) rfl rfl rfl rfl rfl rfl ?_
  refine xV.step rfl ?_
  refine xV.step rfl ?_
  refine xV.kI (k := 24) hK rfl rfl rfl rfl rfl rfl ?_
  refine xV.kP (k := 25) (fs' := fsk m 25) rfl rfl rfl rfl rfl rfl ?_
  refine xV.step rfl ?_
  refine xV.step rfl ?_
  refine xV.kI (k := 25) hK rfl rfl rfl rfl rfl rfl ?_
  refine xV.kP (k := 26) (fs' := fsk m 26) rfl rfl rfl rfl rfl rfl ?_
  refine xV.step rfl ?_
  refine xV.step rfl ?_
  refine xV.kJ (k := 26) hK rfl rfl rfl rfl rfl rfl ?_
  refine xV.kP (k := 27) (fs' := fsk m 27) rfl rfl rfl rfl rfl rfl ?_
  refine xV.step rfl ?_
  refine xV.step rfl ?_
  refine xV.kI (k := 27) hK rfl rfl rfl rfl rfl rfl ?_
  refine xV.kP (k := 28) (fs' := fsk m 28) rfl rfl rfl rfl rfl rfl ?_
  refine xV.step rfl ?_
  refine xV.step rfl ?_
  refine xV.kI (k := 28) hK rfl rfl rfl rfl rfl rfl ?_
  refine xV.kP (k := 29) (fs' := fsk m 29) rfl rfl rfl rfl rfl rfl ?_
  refine xV.step rfl ?_
  refine xV.step rfl ?_
  refine xV.kI (k := 29) hK rfl rfl rfl rfl rfl rfl ?_
  refine xV.kP (k := 30) (fs' := fsk m 30) rfl rfl rfl rfl rfl rfl ?_
  refine xV.step rfl ?_
  refine xV.step rfl ?_
  refine xV.kI (k := 30) hK rfl rfl rfl rfl rfl rfl ?_
  refine xV.kP (k := 31) (fs' := fsk m 31) rfl rfl rfl rfl rfl rfl ?_
  refine xV.step rfl ?_
  refine xV.step rfl ?_
  refine xV.kI (k := 31) hK rfl rfl rfl rfl rfl rfl ?_
  refine xV.kP (k := 32) (fs' := fsk m 32) rfl rfl rfl rfl rfl rfl ?_
  refine xV.step rfl ?_
  refine xV.step rfl ?_
  refine xV.kI (k := 32) hK rfl rfl rfl rfl rfl rfl ?_
  refine xV.kP (k := 33) (fs' := fsk m 33) rfl rfl rfl rfl rfl rfl ?_
  refine xV.step rfl ?_
  refine xV.step rfl ?_
  refine xV.kI (k := 33) hK rfl rfl rfl rfl rfl rfl ?_
  refine xV.kP (k := 34) (fs' := fsk m 34) rfl rfl rfl rfl rfl rfl ?_
  refine xV.step rfl ?_
  refine xV.step rfl ?_
  refine xV.kI (k := 34) hK rfl rfl rfl rfl rfl rfl ?_
  refine xV.kP (k := 35) (fs' := fsk m 35) rfl rfl rfl rfl rfl rfl ?_
  refine xV.step rfl ?_
  refine xV.step rfl ?_
  refine xV.kJ (k := 35) hK rfl rfl rfl rfl rfl rfl ?_
  refine xV.kP (k := 36) (fs' := fsk m 36) rfl rfl rfl rfl rfl rfl ?_
  refine xV.step rfl ?_
  refine xV.step rfl ?_
  refine xV.kI (k := 36) hK rfl rfl rfl rfl rfl rfl ?_
  refine xV.kP (k := 37) (fs' := fsk m 37) rfl rfl rfl rfl rfl rfl ?_
  refine xV.step rfl ?_
  refine xV.step rfl ?_
  refine xV.kI (k := 37) hK rfl rfl rfl rfl rfl rfl ?_
  refine xV.kP (k := 38) (fs' := fsk m 38) rfl rfl rfl rfl rfl rfl ?_
  refine xV.step rfl ?_
  refine xV.step rfl ?_
  refine xV.kI (k := 38) hK rfl rfl rfl rfl rfl rfl ?_
  refine xV.kP (k := 39) (fs' := fsk m 39) rfl rfl rfl rfl rfl rfl ?_
  refine xV.step rfl ?_
  refine xV.step rfl ?_
  refine xV.kI (k := 39) hK rfl rfl rfl rfl rfl rfl ?_
  refine xV.kP (k := 40) (fs' := fsk m 40) rfl rfl rfl rfl rfl rfl ?_
  refine xV.step rfl ?_
  refine xV.step rfl ?_
  refine xV.kI (k := 40) hK rfl rfl rfl rfl rfl rfl ?_
  refine xV.kP (k := 41) (fs' := fsk m 41) rfl rfl rfl rfl rfl rfl ?_
  exact xV.vret rfl rfl ⟨rfl, rfl⟩
theorem c_M_init (hK : kok m 0 h) (hx : h.2.2.2 m = some (.inr (7, xdf 7))) : xV D N0 mM_init (d + 1) 0 (xargs 1 [.ref m]) [] h (xEq (.returned none) (hm m mInit (h.1 + 41, h.2.1 + 41, h.2.2.1 + msum 41, h.2.2.2))) := by
  have e0 : h = hk m 0 mZero (fsk m 0) h := by
    refine Prod.ext rfl (Prod.ext rfl (Prod.ext rfl ?_))
    funext q
    show h.2.2.2 q = if q = m then some (.inr (7, fsk m 0)) else if m < q ∧ q ≤ m + 0 then _ else h.2.2.2 q
    by_cases hq : q = m
    · rw [if_pos hq, hq, hx]
      rfl
    · rw [if_neg hq, if_neg (by omega)]
  have e1 : hk m 41 mInit (fsk m 41) h = hm m mInit (h.1 + 41, h.2.1 + 41, h.2.2.1 + msum 41, h.2.2.2) := by
    refine Prod.ext rfl (Prod.ext rfl (Prod.ext rfl ?_))
    funext q
    show (if q = m then some (.inr (7, fsk m 41)) else if m < q ∧ q ≤ m + 41 then some (mcell m mInit (q - m)) else h.2.2.2 q) = if m ≤ q ∧ q ≤ m + 41 then some (mcell m mInit (q - m)) else h.2.2.2 q
    by_cases hq : q = m
    · rw [if_pos hq, if_pos (by omega), show q - m = 0 by omega]
      rfl
    · rw [if_neg hq]
      by_cases hr : m < q ∧ q ≤ m + 41
      · rw [if_pos hr, if_pos (by omega)]
      · rw [if_neg hr, if_neg (by omega)]
  have key := c_M_init_0 (D := D) (N0 := N0) (d := d) hK
  rw [e1, ← e0] at key
  refine xV.step rfl ?_
  refine xV.obj rfl g_mM_init_1 (Nat.le_of_ble_eq_true rfl) ?_
  exact key
end Y40
