/- Part 14m: the model's state and its heap. -/
/-- int fields by their places; int and boolean arrays by their offsets; long arrays -/
abbrev MS : Type := (Nat → Int32) × (Nat → Nat → Int32) × (Nat → Nat → Int64)
def mkind (k : Nat) : Nat := match k with
  | 5 => 1
  | 11 => 2
  | 16 => 2
  | 21 => 2
  | 22 => 1
  | 23 => 2
  | 27 => 2
  | 36 => 2
  | _ => 0
def mlen (k : Nat) : Nat := match k with
  | 1 => 6
  | 2 => 6
  | 3 => 6
  | 4 => 6
  | 5 => 6
  | 6 => 8
  | 7 => 8
  | 8 => 8
  | 9 => 8
  | 10 => 1024
  | 11 => 512
  | 12 => 8
  | 13 => 8
  | 14 => 512
  | 15 => 512
  | 16 => 512
  | 17 => 512
  | 18 => 8
  | 19 => 8
  | 20 => 8
  | 21 => 8
  | 22 => 8
  | 23 => 24
  | 24 => 24
  | 25 => 5
  | 26 => 5
  | 27 => 6
  | 28 => 6
  | 29 => 16
  | 30 => 16
  | 31 => 16
  | 32 => 16
  | 33 => 16
  | 34 => 16
  | 35 => 16
  | 36 => 16
  | 37 => 80
  | 38 => 80
  | 39 => 80
  | 40 => 80
  | 41 => 80
  | _ => 0
def mfs (m : Nat) (F : Nat → Int32) : List Value := [.int (F 0), .ref (m + 1), .ref (m + 2), .ref (m + 3), .ref (m + 4), .ref (m + 5), .int (F 6), .int (F 7), .ref (m + 6), .ref (m + 7), .ref (m + 8), .ref (m + 9), .ref (m + 10), .ref (m + 11), .ref (m + 12), .ref (m + 13), .ref (m + 14), .ref (m + 15), .ref (m + 16), .ref (m + 17), .ref (m + 18), .ref (m + 19), .ref (m + 20), .ref (m + 21), .ref (m + 22), .int (F 25), .ref (m + 23), .ref (m + 24), .int (F 28), .ref (m + 25), .int (F 30), .ref (m + 26), .ref (m + 27), .ref (m + 28), .int (F 34), .ref (m + 29), .ref (m + 30), .ref (m + 31), .ref (m + 32), .ref (m + 33), .ref (m + 34), .ref (m + 35), .ref (m + 36), .ref (m + 37), .ref (m + 38), .ref (m + 39), .ref (m + 40), .ref (m + 41)]
def mcell (m : Nat) (A : MS) (k : Nat) : XC := match k with
  | 0 => .inr (7, mfs m A.1)
  | k + 1 => match mkind (k + 1) with
    | 0 => .inl (false, .int, mlen (k + 1), .inl (A.2.1 (k + 1)))
    | 1 => .inl (false, .boolean, mlen (k + 1), .inl (A.2.1 (k + 1)))
    | _ => .inl (false, .long, mlen (k + 1), .inr (.inl (A.2.2 (k + 1))))
/-- the heap h with the model's cells laid over it -/
def hm (m : Nat) (A : MS) (h : XH) : XH := (h.1, h.2.1, h.2.2.1, fun q => if m ≤ q ∧ q ≤ m + 41 then some (mcell m A (q - m)) else h.2.2.2 q)
def mF (A : MS) (j : Nat) (x : Int32) : MS := (upd A.1 j x, A.2)
def mI (A : MS) (k i : Nat) (x : Int32) : MS := (A.1, fun a => if a = k then upd (A.2.1 k) i x else A.2.1 a, A.2.2)
def mJ (A : MS) (k i : Nat) (x : Int64) : MS := (A.1, A.2.1, fun a => if a = k then vp_updL (A.2.2 k) i x else A.2.2 a)
theorem hm_get (m : Nat) (A : MS) (h : XH) {k : Nat} (hk : k ≤ 41) : xget (hm m A h) (m + k) = some (mcell m A k) := by
  unfold xget hm
  simp only
  rw [if_pos ⟨Nat.le_add_right m k, by omega⟩]
  congr 2
  omega
theorem hm_get0 (m : Nat) (A : MS) (h : XH) : xget (hm m A h) m = some (.inr (7, mfs m A.1)) := hm_get m A h (k := 0) (by omega)
theorem hm_put (m : Nat) (A A' : MS) (h : XH) {k : Nat} {c : XC} (hk : k ≤ 41) (h1 : mcell m A' k = c) (h2 : ∀ j, j ≠ k → mcell m A' j = mcell m A j) : xput (hm m A h) (m + k) c = hm m A' h := by
  unfold xput hm
  refine Prod.ext rfl (Prod.ext rfl (Prod.ext rfl ?_))
  funext q
  simp only
  by_cases hq : q = m + k
  · subst hq
    rw [if_pos rfl, if_pos ⟨Nat.le_add_right m k, by omega⟩, show m + k - m = k by omega, h1]
  · rw [if_neg hq]
    by_cases hr : m ≤ q ∧ q ≤ m + 41
    · rw [if_pos hr, if_pos hr, h2 (q - m) (by omega)]
    · rw [if_neg hr, if_neg hr]
theorem mcell_mI (m : Nat) (A : MS) (k i : Nat) (x : Int32) : ∀ j, j ≠ k → mcell m (mI A k i x) j = mcell m A j := by
  intro j hj
  unfold mcell mI
  cases j with
  | zero => rfl
  | succ j => simp only [if_neg hj]
theorem mcell_mJ (m : Nat) (A : MS) (k i : Nat) (x : Int64) : ∀ j, j ≠ k → mcell m (mJ A k i x) j = mcell m A j := by
  intro j hj
  unfold mcell mJ
  cases j with
  | zero => rfl
  | succ j => simp only [if_neg hj]
theorem mcell_mF (m : Nat) (A : MS) (i : Nat) (x : Int32) : ∀ j, j ≠ 0 → mcell m (mF A i x) j = mcell m A j := by
  intro j hj
  unfold mcell mF
  cases j with
  | zero => exact absurd rfl hj
  | succ j => rfl
section X14
variable {D : va_G} {N0 : Nat} {M : XM} {d pc m : Nat} {lv : XL} {st : List Value} {h : XH} {A : MS} {Q : Outcome → XH → Prop}
/-- a field of the model -/
theorem xV.mget {idx nx kf : Nat} {r : List Value} {v : Value} (hq : xfl M pc = some (.getfield idx, nx, 7, kf)) (hv : (mfs m A.1)[kf]? = some v) (k : xV D N0 M d nx lv (v :: r) (hm m A h) Q) : xV D N0 M d pc lv (.ref m :: r) (hm m A h) Q :=
  xV.get xcl_ok hq (hm_get0 m A h) hv k
theorem xV.mput {idx nx kf : Nat} {r : List Value} {x : Int32} (hq : xfl M pc = some (.putfield idx, nx, 7, kf)) (hty : (xct 7)[kf]? = some .int) (hf : (mfs m A.1).set kf (.int x) = mfs m (upd A.1 kf x)) (hl : kf < 48) (k : xV D N0 M d nx lv r (hm m (mF A kf x) h) Q) : xV D N0 M d pc lv (.int x :: .ref m :: r) (hm m A h) Q := by
  refine xV.put xcl_ok hq (hm_get0 m A h) hty rfl rfl hl ?_
  have e : xput (hm m A h) m (.inr (7, (mfs m A.1).set kf (.int x))) = hm m (mF A kf x) h := hm_put m A (mF A kf x) h (k := 0) (by omega) (by rw [hf]; rfl) (mcell_mF m A kf x)
  rw [e]
  exact k
theorem xV.mild {k nx n : Nat} {i : Int32} {r : List Value} (hq : xon M pc = some (.iaload, nx)) (hc : mcell m A k = .inl (false, .int, n, .inl (A.2.1 k))) (hk : k ≤ 41) (hin : vp_in i n) (kk : xV D N0 M d nx lv (.int (A.2.1 k i.toNatClampNeg) :: r) (hm m A h) Q) : xV D N0 M d pc lv (.int i :: .ref (m + k) :: r) (hm m A h) Q :=
  xV.iald hq (by rw [hm_get m A h hk, hc]) hin kk
theorem xV.mzld {k nx n : Nat} {i : Int32} {r : List Value} (hq : xon M pc = some (.baload, nx)) (hc : mcell m A k = .inl (false, .boolean, n, .inl (A.2.1 k))) (hk : k ≤ 41) (hin : vp_in i n) (kk : xV D N0 M d nx lv (.int (A.2.1 k i.toNatClampNeg) :: r) (hm m A h) Q) : xV D N0 M d pc lv (.int i :: .ref (m + k) :: r) (hm m A h) Q :=
  xV.zald hq (by rw [hm_get m A h hk, hc]) hin kk
theorem xV.mjld {k nx n : Nat} {i : Int32} {r : List Value} (hq : xon M pc = some (.laload, nx)) (hc : mcell m A k = .inl (false, .long, n, .inr (.inl (A.2.2 k)))) (hk : k ≤ 41) (hin : vp_in i n) (kk : xV D N0 M d nx lv (.long (A.2.2 k i.toNatClampNeg) :: r) (hm m A h) Q) : xV D N0 M d pc lv (.int i :: .ref (m + k) :: r) (hm m A h) Q :=
  xV.lald hq (by rw [hm_get m A h hk, hc]) hin kk
theorem xV.mist {k nx n : Nat} {i x : Int32} {r : List Value} (hq : xon M pc = some (.iastore, nx)) (hc : mcell m A k = .inl (false, .int, n, .inl (A.2.1 k))) (hc' : mcell m (mI A k i.toNatClampNeg x) k = .inl (false, .int, n, .inl (upd (A.2.1 k) i.toNatClampNeg x))) (hk : k ≤ 41) (hin : vp_in i n) (kk : xV D N0 M d nx lv r (hm m (mI A k i.toNatClampNeg x) h) Q) : xV D N0 M d pc lv (.int x :: .int i :: .ref (m + k) :: r) (hm m A h) Q := by
  refine xV.iast hq (by rw [hm_get m A h hk, hc]) hin ?_
  rw [hm_put m A (mI A k i.toNatClampNeg x) h hk hc' (mcell_mI m A k _ x)]
  exact kk
theorem xV.mzst {k nx n : Nat} {i x : Int32} {r : List Value} (hq : xon M pc = some (.bastore, nx)) (hc : mcell m A k = .inl (false, .boolean, n, .inl (A.2.1 k))) (hc' : mcell m (mI A k i.toNatClampNeg x) k = .inl (false, .boolean, n, .inl (upd (A.2.1 k) i.toNatClampNeg x))) (hk : k ≤ 41) (hin : vp_in i n) (hx : narrow .boolean (.int x) = .int x) (kk : xV D N0 M d nx lv r (hm m (mI A k i.toNatClampNeg x) h) Q) : xV D N0 M d pc lv (.int x :: .int i :: .ref (m + k) :: r) (hm m A h) Q := by
  refine xV.zast hq (by rw [hm_get m A h hk, hc]) hin hx ?_
  rw [hm_put m A (mI A k i.toNatClampNeg x) h hk hc' (mcell_mI m A k _ x)]
  exact kk
theorem xV.mjst {k nx n : Nat} {i : Int32} {x : Int64} {r : List Value} (hq : xon M pc = some (.lastore, nx)) (hc : mcell m A k = .inl (false, .long, n, .inr (.inl (A.2.2 k)))) (hc' : mcell m (mJ A k i.toNatClampNeg x) k = .inl (false, .long, n, .inr (.inl (vp_updL (A.2.2 k) i.toNatClampNeg x)))) (hk : k ≤ 41) (hin : vp_in i n) (kk : xV D N0 M d nx lv r (hm m (mJ A k i.toNatClampNeg x) h) Q) : xV D N0 M d pc lv (.long x :: .int i :: .ref (m + k) :: r) (hm m A h) Q := by
  refine xV.last hq (by rw [hm_get m A h hk, hc]) hin ?_
  rw [hm_put m A (mJ A k i.toNatClampNeg x) h hk hc' (mcell_mJ m A k _ x)]
  exact kk
end X14
