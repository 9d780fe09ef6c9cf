/- Part 16a: numbers. -/
theorem xn_toInt {j : Nat} (hj : j < 2 ^ 31) : (nI j).toInt = (j : Int) := toInt_of rfl hj
theorem xn_lt {j n : Nat} (hj : j < 2 ^ 31) (hn : n < 2 ^ 31) : nI j < nI n ↔ j < n := by
  rw [Int32.lt_iff_toInt_lt, xn_toInt hj, xn_toInt hn]; omega
theorem xn_le {j n : Nat} (hj : j < 2 ^ 31) (hn : n < 2 ^ 31) : nI j ≤ nI n ↔ j ≤ n := by
  rw [Int32.le_iff_toInt_le, xn_toInt hj, xn_toInt hn]; omega
theorem xn_inj {j n : Nat} (hj : j < 2 ^ 31) (hn : n < 2 ^ 31) : nI j = nI n ↔ j = n := by
  rw [← Int32.toInt_inj, xn_toInt hj, xn_toInt hn]; omega
theorem xn_succ (j : Nat) : nI j + 1 = nI (j + 1) := (inc_ofNat j).symm
theorem xn_clamp {j : Nat} (hj : j < 2 ^ 31) : (nI j).toNatClampNeg = j := clamp_of rfl hj
theorem xn_in {j n : Nat} (hj : j < n) (hn : n < 2 ^ 31) : vp_in (nI j) n := within rfl hj hn
theorem xn_nonneg {j : Nat} (hj : j < 2 ^ 31) : ¬ nI j < 0 := by
  rw [Int32.lt_iff_toInt_lt, xn_toInt hj]
  simp only [Int32.toInt_zero]
  omega
/-- a number between 0 and n - 1, as the machine has it, is that of a natural number -/
theorem xn_of {v : Int32} {n : Nat} (h0 : 0 ≤ v.toInt) (hn : v.toInt < (n : Int)) (hn2 : n < 2 ^ 31) : ∃ j, j < n ∧ v = nI j := by
  refine ⟨v.toInt.toNat, by omega, ?_⟩
  rw [← Int32.toInt_inj, xn_toInt (by omega)]
  omega
theorem lg_cmp_eq0 (x y : Int64) : lg_cmp x y = 0 ↔ x = y := by
  unfold lg_cmp
  by_cases h1 : x > y
  · rw [if_pos h1]
    refine ⟨fun h => absurd h (by decide), fun h => ?_⟩
    subst h
    exact absurd h1 (by rw [gt_iff_lt, Int64.lt_iff_toInt_lt]; omega)
  · rw [if_neg h1]
    by_cases h2 : x = y
    · rw [if_pos h2]; exact ⟨fun _ => h2, fun _ => rfl⟩
    · rw [if_neg h2]
      exact ⟨fun h => absurd h (by decide), fun h => absurd h h2⟩
/-- an index or -1 -/
def oi (o : Option Nat) : Int32 := match o with
  | none => -1
  | some n => nI n
theorem oi_none {o : Option Nat} (ho : ∀ n, o = some n → n < 2 ^ 31) : oi o = -1 ↔ o = none := by
  cases o with
  | none => exact ⟨fun _ => rfl, fun _ => rfl⟩
  | some n =>
    refine ⟨fun h => ?_, fun h => by cases h⟩
    have h1 := congrArg Int32.toInt h
    rw [show oi (some n) = nI n from rfl, xn_toInt (ho n rfl)] at h1
    have h2 : (-1 : Int32).toInt = -1 := by decide
    omega
def mfind (f : Nat → Int64) (k : Int64) : Nat → Option Nat
  | 0 => none
  | n + 1 => if f n = k then some n else mfind f k n
theorem mfind_lt {f : Nat → Int64} {k : Int64} {n j : Nat} (h : mfind f k n = some j) : j < n ∧ f j = k := by
  induction n with
  | zero => cases h
  | succ n ih =>
    unfold mfind at h
    by_cases hk : f n = k
    · rw [if_pos hk] at h
      cases h
      exact ⟨Nat.lt_succ_self _, hk⟩
    · rw [if_neg hk] at h
      obtain ⟨h1, h2⟩ := ih h
      exact ⟨Nat.lt_succ_of_lt h1, h2⟩
/-- a secret's lock -/
def lk (s : Int64) : Int64 :=
  let x := s * 7046029254386353131
  let x := x ^^^ (x.toUInt64 >>> ((29 : Int32).toInt64.toUInt64 &&& Int64.toUInt64 63)).toInt64
  let x := x * 4768777513237032717
  x ^^^ (x.toUInt64 >>> ((32 : Int32).toInt64.toUInt64 &&& Int64.toUInt64 63)).toInt64
