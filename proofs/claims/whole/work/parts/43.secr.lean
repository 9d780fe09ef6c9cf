/- Part 43: arrays by natural indices; Secrets. -/
section X43
variable {D : va_G} {N0 : Nat} {M : XM} {d pc a n nx j : Nat} {lv : XL} {h : XH} {Q : Outcome → XH → Prop} {i x : Int32} {r : List Value} {f : Nat → Int32} {g : Nat → Int64}
theorem xV.ii (hq : xon M pc = some (.iaload, nx)) (ha : xget h a = some (.inl (false, .int, n, .inl f))) (hi : i = nI j) (hj : j < n) (hn : n ≤ 1024) (k : xV D N0 M d nx lv (.int (f j) :: r) h Q) : xV D N0 M d pc lv (.int i :: .ref a :: r) h Q := by
  subst hi
  refine xV.iald hq ha (xn_in hj (by omega)) ?_
  rw [xn_clamp (by omega)]
  exact k
theorem xV.ij (hq : xon M pc = some (.laload, nx)) (ha : xget h a = some (.inl (false, .long, n, .inr (.inl g)))) (hi : i = nI j) (hj : j < n) (hn : n ≤ 1024) (k : xV D N0 M d nx lv (.long (g j) :: r) h Q) : xV D N0 M d pc lv (.int i :: .ref a :: r) h Q := by
  subst hi
  refine xV.lald hq ha (xn_in hj (by omega)) ?_
  rw [xn_clamp (by omega)]
  exact k
theorem xV.is (hq : xon M pc = some (.iastore, nx)) (ha : xget h a = some (.inl (false, .int, n, .inl f))) (hi : i = nI j) (hj : j < n) (hn : n ≤ 1024) (k : xV D N0 M d nx lv r (xput h a (.inl (false, .int, n, .inl (upd f j x)))) Q) : xV D N0 M d pc lv (.int x :: .int i :: .ref a :: r) h Q := by
  subst hi
  refine xV.iast hq ha (xn_in hj (by omega)) ?_
  rw [xn_clamp (by omega)]
  exact k
theorem xV.js {y : Int64} (hq : xon M pc = some (.lastore, nx)) (ha : xget h a = some (.inl (false, .long, n, .inr (.inl g)))) (hi : i = nI j) (hj : j < n) (hn : n ≤ 1024) (k : xV D N0 M d nx lv r (xput h a (.inl (false, .long, n, .inr (.inl (vp_updL g j y))))) Q) : xV D N0 M d pc lv (.long y :: .int i :: .ref a :: r) h Q := by
  subst hi
  refine xV.last hq ha (xn_in hj (by omega)) ?_
  rw [xn_clamp (by omega)]
  exact k
end X43
theorem xput_get {h : XH} {a : Nat} {c : XC} : xget (xput h a c) a = some c := by
  show (if a = a then some c else _) = _
  rw [if_pos rfl]
theorem xput_ne {h : XH} {a b : Nat} {c : XC} (hne : b ≠ a) : xget (xput h a c) b = xget h b := by
  show (if b = a then some c else h.2.2.2 b) = h.2.2.2 b
  rw [if_neg hne]
theorem mfind_none {f : Nat → Int64} {k : Int64} : ∀ {n : Nat}, (∀ i, i < n → f i ≠ k) → mfind f k n = none
  | 0, _ => rfl
  | n + 1, hn => by
    unfold mfind
    rw [if_neg (hn n (by omega))]
    exact mfind_none (fun i hi => hn i (by omega))
theorem mfind_some {f : Nat → Int64} {k : Int64} {j : Nat} : ∀ {n : Nat}, j < n → f j = k → (∀ i, i < n → f i = k → i = j) → mfind f k n = some j
  | 0, hj, _, _ => by omega
  | n + 1, hj, hf, hu => by
    unfold mfind
    by_cases hn : f n = k
    · rw [if_pos hn, hu n (by omega) hn]
    · rw [if_neg hn]
      have : j ≠ n := fun z => hn (by rw [← z]; exact hf)
      exact mfind_some (by omega) hf (fun i hi hz => hu i (by omega) hz)
section Y43
variable {D : va_G} {N0 : Nat} {d a l g : Nat} {h : XH} {f : Nat → Int64} {w : Nat → Int32} {K : Nat}
theorem c_S_find_loop (ha : xget h a = some (.inr (1, [.ref l, .ref g, .int (nI K)]))) (hl : xget h l = some (.inl (false, .long, 24, .inr (.inl f)))) (hK : K ≤ 24) (hd : ∀ i j, i < K → j < K → f i = f j → i = j) {k : Int64} : ∀ n j, j + n = K → (∀ i, i < j → f i ≠ k) →
    xV D N0 mS_find d 2 [some (.ref a), some (.long k), none, some (.int (nI j))] [] h (xEq (.returned (some (.int (oi (mfind f k K))))) h) := by
  intro n
  induction n with
  | zero =>
    intro j hj hno
    obtain rfl : j = K := by omega
    repeat' first
      | refine xV.step rfl ?_
      | refine xV.get xcl_ok rfl ha rfl ?_
    refine xV.br rfl (fun h1 => ?_) (fun h1 => ?_)
    · repeat' refine xV.step rfl ?_
      refine xV.iret rfl rfl rfl ⟨?_, rfl⟩
      rw [mfind_none hno]
      rfl
    · rw [xn_le (by omega) (by omega)] at h1
      omega
  | succ n ih =>
    intro j hj hno
    repeat' first
      | refine xV.step rfl ?_
      | refine xV.get xcl_ok rfl ha rfl ?_
    refine xV.br rfl (fun h1 => ?_) (fun h1 => ?_)
    · rw [xn_le (by omega) (by omega)] at h1
      omega
    repeat' first
      | refine xV.step rfl ?_
      | refine xV.get xcl_ok rfl ha rfl ?_
    refine xV.ij (j := j) rfl hl rfl (by omega) (by omega) ?_
    repeat' refine xV.step rfl ?_
    refine xV.br rfl (fun h2 => ?_) (fun h2 => ?_)
    · rw [lg_cmp_eq0] at h2
      repeat' refine xV.step rfl ?_
      refine xV.iret rfl rfl rfl ⟨?_, rfl⟩
      rw [mfind_some (j := j) (by omega) h2 (fun i hi hz => hd i j hi (by omega) (by rw [hz, h2]))]
      rfl
    · rw [lg_cmp_eq0] at h2
      refine xV.step rfl ?_
      refine xV.step rfl ?_
      show xV D N0 mS_find d 2 [some (.ref a), some (.long k), none, some (.int (nI j + 1))] [] _ _
      rw [xn_succ]
      refine ih (j + 1) (by omega) (fun i hi => ?_)
      rcases Nat.lt_or_ge i j with hz | hz
      · exact hno i hz
      · obtain rfl : i = j := by omega
        exact h2
theorem c_S_find (ha : xget h a = some (.inr (1, [.ref l, .ref g, .int (nI K)]))) (hl : xget h l = some (.inl (false, .long, 24, .inr (.inl f)))) (hK : K ≤ 24) (hd : ∀ i j, i < K → j < K → f i = f j → i = j) {k : Int64} :
    xV D N0 mS_find d 0 (xargs 4 [.ref a, .long k]) [] h (xEq (.returned (some (.int (oi (mfind f k K))))) h) := by
  refine xV.step rfl ?_
  refine xV.step rfl ?_
  exact c_S_find_loop ha hl hK hd K 0 (by omega) (fun i hi => by omega)
def sknows (f : Nat → Int64) (w : Nat → Int32) (K : Nat) (n : Int32) (k : Int64) : Bool := match mfind f k K with
  | some j => decide (¬ w j >>> (n &&& 31) &&& 1 = 0)
  | none => false
theorem c_S_isKnown (ha : xget h a = some (.inr (1, [.ref l, .ref g, .int (nI K)]))) (hl : xget h l = some (.inl (false, .long, 24, .inr (.inl f)))) (hg : xget h g = some (.inl (false, .int, 24, .inl w))) (hK : K ≤ 24) (hd : ∀ i j, i < K → j < K → f i = f j → i = j) {n : Int32} {k : Int64} :
    xV D N0 mS_isKnown (d + 1) 0 (xargs 5 [.ref a, .int n, .long k]) [] h (xEq (.returned (some (.int (xB (sknows f w K n k))))) h) := by
  repeat' refine xV.step rfl ?_
  refine xV.cV rfl rfl ha rfl g_mS_isKnown_23 mS_find_ok (Nat.le_of_ble_eq_true rfl) (Nat.le_of_ble_eq_true rfl) (c_S_find ha hl hK hd) ?_
  unfold sknows
  cases hf : mfind f k K with
  | none =>
    repeat' refine xV.step rfl ?_
    refine xV.br rfl (fun h1 => ?_) (fun h1 => absurd rfl h1)
    repeat' refine xV.step rfl ?_
    exact xV.iret rfl rfl rfl ⟨rfl, rfl⟩
  | some j =>
    have hj : j < 24 := by have := (mfind_lt hf).1; omega
    repeat' refine xV.step rfl ?_
    refine xV.br rfl (fun h1 => ?_) (fun h1 => ?_)
    · have h2 := (oi_none (o := some j) (fun n hn => by cases hn; omega)).mp h1
      cases h2
    repeat' first
      | refine xV.step rfl ?_
      | refine xV.get xcl_ok rfl ha rfl ?_
    refine xV.ii (j := j) rfl hg rfl hj (by omega) ?_
    repeat' refine xV.step rfl ?_
    refine xV.br rfl (fun h2 => ?_) (fun h2 => ?_)
    · repeat' refine xV.step rfl ?_
      exact xV.iret rfl rfl rfl ⟨xB0 (fun z => z h2), rfl⟩
    · repeat' refine xV.step rfl ?_
      exact xV.iret rfl rfl rfl ⟨xB1 h2, rfl⟩
def shas (f : Nat → Int64) (K : Nat) (k : Int64) : Bool := (mfind f k K).isSome || decide (K < 24)
theorem c_S_hasRoomFor (ha : xget h a = some (.inr (1, [.ref l, .ref g, .int (nI K)]))) (hl : xget h l = some (.inl (false, .long, 24, .inr (.inl f)))) (hK : K ≤ 24) (hd : ∀ i j, i < K → j < K → f i = f j → i = j) {k : Int64} :
    xV D N0 mS_hasRoomFor (d + 1) 0 (xargs 3 [.ref a, .long k]) [] h (xEq (.returned (some (.int (xB (shas f K k))))) h) := by
  refine xV.step rfl ?_
  refine xV.get xcl_ok rfl ha rfl ?_
  refine xV.step rfl ?_
  refine xV.br rfl (fun h1 => ?_) (fun h1 => ?_)
  · rw [show (24 : Int32) = nI 24 from rfl, xn_lt (by omega) (by omega)] at h1
    repeat' refine xV.step rfl ?_
    refine xV.iret rfl rfl rfl ⟨?_, rfl⟩
    simp [shas, h1, xB]
  rw [show (24 : Int32) = nI 24 from rfl, xn_lt (by omega) (by omega)] at h1
  repeat' refine xV.step rfl ?_
  refine xV.cV rfl rfl ha rfl g_mS_hasRoomFor_23 mS_find_ok (Nat.le_of_ble_eq_true rfl) (Nat.le_of_ble_eq_true rfl) (c_S_find ha hl hK hd) ?_
  refine xV.step rfl ?_
  refine xV.br rfl (fun h2 => ?_) (fun h2 => ?_)
  · rw [oi_none (mfind_small hK)] at h2
    repeat' refine xV.step rfl ?_
    refine xV.iret rfl rfl rfl ⟨?_, rfl⟩
    simp [shas, h1, h2, xB]
  · rw [oi_none (mfind_small hK)] at h2
    repeat' refine xV.step rfl ?_
    refine xV.iret rfl rfl rfl ⟨?_, rfl⟩
    cases hf : mfind f k K with
    | none => exact absurd hf h2
    | some j => simp [shas, hf, xB]
end Y43
