/- Part 19: secrets, promises and states of the model. -/
theorem lg_cmp_lt0 (x y : Int64) : lg_cmp x y < 0 ↔ x < y := by
  have h := lg_cmp_ge x y
  rw [Int32.le_iff_toInt_le, Int64.le_iff_toInt_le] at h
  rw [Int32.lt_iff_toInt_lt, Int64.lt_iff_toInt_lt]
  omega
def mhas (A : MS) (K : Nat) (k : Int64) : Bool := (mfind (A.2.2 23) k K).isSome || decide (K < 24)
def mlearn (A : MS) (K : Nat) (k : Int64) (w : Int32) : MS := match mfind (A.2.2 23) k K with
  | some j => mI A 24 j (A.2.1 24 j ||| w)
  | none => mI (mF (mI (mJ A 23 K k) 24 K 0) 25 (nI K + 1)) 24 K (0 ||| w)
def mknows (A : MS) (K : Nat) (n : Int32) (k : Int64) : Bool := match mfind (A.2.2 23) k K with
  | some j => decide (A.2.1 24 j >>> (n &&& 31) &&& 1 = 1)
  | none => false
def mbit (s : Int64) (k : Int32) : Bool := decide (0 ≤ k ∧ k < 64 ∧ (s >>> (k.toInt64 &&& 63)) &&& 1 = 1)
def bitsN (s : Int64) : Nat → Int32
  | 0 => 0
  | k + 1 => bitsN s k + ((s >>> ((nI k).toInt64 &&& 63)) &&& 1).toInt32
def mcarr (A : MS) (j l s : Nat) (a : Int64) : Bool := decide (A.2.1 8 j = 0 ∧ bitsN (A.2.2 11 (64 * j + l)) 64 < 6 ∧ ¬ (A.2.1 10 (2 * (64 * j + l) + s)).toInt64 < a)
def moth (A : MS) (j : Nat) : Int32 := mnode A j (1 - mside A j (A.2.1 19 j))
def mnext (A : MS) (j l : Nat) (side by0 : Int32) (set : Int64) : MS :=
  let A1 := mI A 9 j (nI (l + 1))
  let A2 := mI A1 10 (2 * (64 * j + (l + 1)) + 0) (A1.2.1 10 (2 * (64 * j + l) + 0) + if side = 0 then by0 else 0)
  let A3 := mI A2 10 (2 * (64 * j + (l + 1)) + 1) (A2.2.1 10 (2 * (64 * j + l) + 1) + if side = 1 then by0 else 0)
  mJ A3 11 (64 * j + l + 1) set
section X19
variable {D : va_G} {N0 : Nat} {d m : Nat} {h : XH} {A : MS}
theorem mfind_small {f : Nat → Int64} {k : Int64} {K : Nat} (hK : K ≤ 24) : ∀ n, mfind f k K = some n → n < 2 ^ 31 := fun n hn => by
  have := (mfind_lt hn).1
  omega
theorem c_M_hasRoom {K : Nat} (hK : A.1 25 = nI K) (hK2 : K ≤ 24) {k : Int64} : xV D N0 mM_hasRoom (d + 1) 0 (xargs 3 [.ref m, .long k]) [] (hm m A h) (xEq (.returned (some (.int (xB (mhas A K k))))) (hm m A h)) := by
  repeat' refine xV.step rfl ?_
  refine xV.cM rfl rfl g_mM_hasRoom_154 mM_find_ok (Nat.le_of_ble_eq_true rfl) (Nat.le_of_ble_eq_true rfl) (c_M_find hK hK2) ?_
  refine xV.step rfl ?_
  refine xV.br rfl (fun h1 => ?_) (fun h1 => ?_)
  · rw [oi_none (mfind_small hK2)] at h1
    repeat' refine xV.step rfl ?_
    refine xV.mget rfl rfl ?_
    repeat' refine xV.step rfl ?_
    rw [hK]
    refine xV.br rfl (fun h2 => ?_) (fun h2 => ?_)
    · repeat' refine xV.step rfl ?_
      refine xV.iret rfl rfl rfl ⟨?_, rfl⟩
      rw [show (24 : Int32) = nI 24 from rfl, xn_le (by omega) (by omega)] at h2
      have : ¬ K < 24 := by omega
      simp [mhas, h1, this, xB]
    · repeat' refine xV.step rfl ?_
      refine xV.iret rfl rfl rfl ⟨?_, rfl⟩
      rw [show (24 : Int32) = nI 24 from rfl, xn_le (by omega) (by omega)] at h2
      have : K < 24 := by omega
      simp [mhas, this, xB]
  · rw [oi_none (mfind_small hK2)] at h1
    repeat' refine xV.step rfl ?_
    refine xV.iret rfl rfl rfl ⟨?_, rfl⟩
    cases hf : mfind (A.2.2 23) k K with
    | none => exact absurd hf h1
    | some j => simp [mhas, hf, xB]
theorem c_M_learn {K : Nat} (hK : A.1 25 = nI K) (hK2 : K ≤ 24) {k : Int64} {w : Int32} (hr : mhas A K k = true) : xV D N0 mM_learn (d + 1) 0 (xargs 5 [.ref m, .long k, .int w]) [] (hm m A h) (xEq (.returned none) (hm m (mlearn A K k w) h)) := by
  repeat' refine xV.step rfl ?_
  refine xV.cM rfl rfl g_mM_learn_154 mM_find_ok (Nat.le_of_ble_eq_true rfl) (Nat.le_of_ble_eq_true rfl) (c_M_find hK hK2) ?_
  unfold mlearn
  cases hf : mfind (A.2.2 23) k K with
  | none =>
    have hK3 : K < 24 := by
      unfold mhas at hr
      rw [hf] at hr
      simpa using hr
    repeat' refine xV.step rfl ?_
    refine xV.br rfl (fun h1 => ?_) (fun h1 => absurd rfl h1)
    repeat' refine xV.step rfl ?_
    refine xV.mget rfl rfl ?_
    rw [hK]
    repeat' first
      | refine xV.step rfl ?_
      | refine xV.mget rfl rfl ?_
      | refine xV.sj rfl rfl rfl rfl hK3 ?_
      | refine xV.si rfl rfl rfl rfl hK3 ?_
      | refine xV.mput rfl rfl rfl (Nat.le_of_ble_eq_true rfl) ?_
      | refine xV.mi rfl rfl rfl hK3 ?_
    refine xV.vret rfl rfl ⟨rfl, ?_⟩
    show hm m (mI (mF (mI (mJ A 23 K k) 24 K 0) 25 (A.1 25 + 1)) 24 K ((if K = K then 0 else A.2.1 24 K) ||| w)) h = _
    rw [if_pos rfl, hK]
  | some j =>
    have hj : j < 24 := by have := (mfind_lt hf).1; omega
    repeat' refine xV.step rfl ?_
    refine xV.br rfl (fun h1 => ?_) (fun h1 => ?_)
    · have h2 := (oi_none (o := some j) (fun n hn => by cases hn; omega)).mp h1
      cases h2
    · rw [show oi (some j) = nI j from rfl]
      repeat' first
        | refine xV.step rfl ?_
        | refine xV.mget rfl rfl ?_
        | refine xV.si rfl rfl rfl rfl hj ?_
        | refine xV.mi rfl rfl rfl hj ?_
      exact xV.vret rfl rfl ⟨rfl, rfl⟩
theorem c_M_isKnown {K : Nat} (hK : A.1 25 = nI K) (hK2 : K ≤ 24) {n : Int32} {k : Int64} : xV D N0 mM_isKnown (d + 1) 0 (xargs 5 [.ref m, .int n, .long k]) [] (hm m A h) (xEq (.returned (some (.int (xB (mknows A K n k))))) (hm m A h)) := by
  repeat' refine xV.step rfl ?_
  refine xV.cM rfl rfl g_mM_isKnown_154 mM_find_ok (Nat.le_of_ble_eq_true rfl) (Nat.le_of_ble_eq_true rfl) (c_M_find hK hK2) ?_
  unfold mknows
  cases hf : mfind (A.2.2 23) k K with
  | none =>
    repeat' refine xV.step rfl ?_
    refine xV.br rfl (fun h1 => ?_) (fun h1 => absurd rfl h1)
    repeat' refine xV.step rfl ?_
    exact xV.iret rfl rfl rfl ⟨rfl, rfl⟩
  | some j =>
    have hj : j < 24 := by have := (mfind_lt hf).1; omega
    repeat' refine xV.step rfl ?_
    refine xV.br rfl (fun h1 => ?_) (fun h1 => ?_)
    · have h2 := (oi_none (o := some j) (fun n hn => by cases hn; omega)).mp h1
      cases h2
    · rw [show oi (some j) = nI j from rfl]
      repeat' first
        | refine xV.step rfl ?_
        | refine xV.mget rfl rfl ?_
        | refine xV.mi rfl rfl rfl hj ?_
        | refine xV.br rfl (fun _ => ?_) (fun _ => ?_)
      all_goals refine xV.iret rfl rfl rfl ⟨?_, rfl⟩
      all_goals first
        | exact xB1 (by assumption)
        | exact xB0 (by assumption)
theorem c_M_hasBit {s : Int64} {k : Int32} : xV D N0 mM_hasBit d 0 (xargs 3 [.long s, .int k]) [] h (xEq (.returned (some (.int (xB (mbit s k))))) h) := by
  unfold mbit
  repeat' first
    | refine xV.step rfl ?_
    | refine xV.br rfl (fun _ => ?_) (fun _ => ?_)
  all_goals refine xV.iret rfl rfl rfl ⟨?_, rfl⟩
  all_goals try simp only [lg_cmp_eq0] at *
  all_goals first
    | exact xB1 (by refine ⟨?_, ?_, by assumption⟩ <;> (simp only [Int32.lt_iff_toInt_lt, Int32.le_iff_toInt_le] at *; omega))
    | exact xB0 (by rintro ⟨h1, h2, h3⟩; first | contradiction | (simp only [Int32.lt_iff_toInt_lt, Int32.le_iff_toInt_le] at *; omega))
theorem c_M_bits_loop {s : Int64} : ∀ n j, j + n = 64 → xV D N0 mM_bits d 4 [some (.long s), none, some (.int (bitsN s j)), some (.int (nI j))] [] h (xEq (.returned (some (.int (bitsN s 64)))) h) := by
  intro n
  induction n with
  | zero =>
    intro j hj
    obtain rfl : j = 64 := by omega
    repeat' refine xV.step rfl ?_
    refine xV.br rfl (fun h1 => ?_) (fun h1 => absurd (by decide) h1)
    repeat' refine xV.step rfl ?_
    exact xV.iret rfl rfl rfl ⟨rfl, rfl⟩
  | succ n ih =>
    intro j hj
    repeat' refine xV.step rfl ?_
    have ih := ih (j + 1) (by omega)
    rw [← xn_succ] at ih
    refine xV.br rfl (fun h1 => ?_) (fun h1 => ?_)
    · rw [show (64 : Int32) = nI 64 from rfl, xn_le (by omega) (by omega)] at h1
      omega
    · repeat' first
        | exact ih
        | refine xV.step rfl ?_
theorem c_M_bits {s : Int64} : xV D N0 mM_bits d 0 (xargs 4 [.long s]) [] h (xEq (.returned (some (.int (bitsN s 64)))) h) := by
  refine xV.step rfl ?_
  refine xV.step rfl ?_
  refine xV.step rfl ?_
  refine xV.step rfl ?_
  exact c_M_bits_loop 64 0 (by omega)
theorem c_M_carries {j l s : Nat} (hj : j < 8) (hl : A.2.1 9 j = nI l) (hl2 : l < 64) (hs : s < 2) {a : Int64} : xV D N0 mM_carries (d + 2) 0 (xargs 5 [.ref m, .int (nI j), .int (nI s), .long a]) [] (hm m A h) (xEq (.returned (some (.int (xB (mcarr A j l s a))))) (hm m A h)) := by
  unfold mcarr
  repeat' first
    | refine xV.step rfl ?_
    | refine xV.mget rfl rfl ?_
    | refine xV.mi rfl rfl rfl hj ?_
  refine xV.br rfl (fun h1 => ?_) (fun h1 => ?_)
  · repeat' refine xV.step rfl ?_
    refine xV.cM rfl rfl g_mM_carries_182 mM_now_ok (Nat.le_of_ble_eq_true rfl) (Nat.le_of_ble_eq_true rfl) (c_M_now hj hl hl2) ?_
    refine xV.cS rfl rfl g_mM_carries_202 mM_bits_ok (Nat.le_of_ble_eq_true rfl) (Nat.le_of_ble_eq_true rfl) c_M_bits ?_
    refine xV.step rfl ?_
    refine xV.br rfl (fun h2 => ?_) (fun h2 => ?_)
    · repeat' refine xV.step rfl ?_
      refine xV.iret rfl rfl rfl ⟨?_, rfl⟩
      exact xB0 (fun h3 => by have := h3.2.1; simp only [Int32.lt_iff_toInt_lt, Int32.le_iff_toInt_le] at *; omega)
    · repeat' refine xV.step rfl ?_
      refine xV.cM rfl rfl g_mM_carries_208 mM_balance_ok (Nat.le_of_ble_eq_true rfl) (Nat.le_of_ble_eq_true rfl) (c_M_balance hj hl hl2 hs) ?_
      repeat' refine xV.step rfl ?_
      refine xV.br rfl (fun h3 => ?_) (fun h3 => ?_)
      · rw [lg_cmp_lt0] at h3
        repeat' refine xV.step rfl ?_
        refine xV.iret rfl rfl rfl ⟨?_, rfl⟩
        exact xB0 (fun h4 => h4.2.2 h3)
      · rw [lg_cmp_lt0] at h3
        repeat' refine xV.step rfl ?_
        refine xV.iret rfl rfl rfl ⟨?_, rfl⟩
        exact xB1 ⟨h1, by simp only [Int32.lt_iff_toInt_lt, Int32.le_iff_toInt_le] at *; omega, h3⟩
  · repeat' refine xV.step rfl ?_
    refine xV.iret rfl rfl rfl ⟨?_, rfl⟩
    exact xB0 (fun h3 => h1 h3.1)
theorem c_M_other {j : Nat} (hj : j < 8) : xV D N0 mM_other (d + 1) 0 (xargs 2 [.ref m, .int (nI j)]) [] (hm m A h) (xEq (.returned (some (.int (moth A j)))) (hm m A h)) := by
  repeat' first
    | refine xV.step rfl ?_
    | refine xV.mget rfl rfl ?_
    | refine xV.mi rfl rfl rfl hj ?_
  refine xV.cM rfl rfl g_mM_other_199 mM_sideOf_ok (Nat.le_of_ble_eq_true rfl) (Nat.le_of_ble_eq_true rfl) (c_M_sideOf hj) ?_
  repeat' refine xV.step rfl ?_
  refine xV.cM rfl rfl g_mM_other_192 mM_nodeOf_ok (Nat.le_of_ble_eq_true rfl) (Nat.le_of_ble_eq_true rfl) (c_M_nodeOf hj) ?_
  exact xV.iret rfl rfl rfl ⟨rfl, rfl⟩
def mpun (A : MS) (j o : Nat) : MS := mI (mI (mI A 1 o (A.2.1 1 o + A.2.1 12 j)) 8 j 2) 12 j 0
theorem c_M_punished {j o : Nat} (hj : j < 8) (ho : moth A j = nI o) (ho2 : o < 6) : xV D N0 mM_punished (d + 2) 0 (xargs 2 [.ref m, .int (nI j)]) [] (hm m A h) (xEq (.returned none) (hm m (mpun A j o) h)) := by
  repeat' first
    | refine xV.step rfl ?_
    | refine xV.mget rfl rfl ?_
  refine xV.cM rfl rfl g_mM_punished_270 mM_other_ok (Nat.le_of_ble_eq_true rfl) (Nat.le_of_ble_eq_true rfl) (c_M_other hj) ?_
  rw [ho]
  repeat' first
    | refine xV.step rfl ?_
    | refine xV.mget rfl rfl ?_
    | refine xV.mi rfl rfl rfl ho2 ?_
    | refine xV.mi rfl rfl rfl hj ?_
    | refine xV.si rfl rfl rfl rfl ho2 ?_
  refine xV.cM rfl rfl g_mM_punished_229 mM_shut_ok (Nat.le_of_ble_eq_true rfl) (Nat.le_of_ble_eq_true rfl) (c_M_shut hj) ?_
  exact xV.vret rfl rfl ⟨rfl, rfl⟩
end X19
