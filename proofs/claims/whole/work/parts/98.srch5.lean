/- Part 98: both searches find the same route. -/
def gi (s : Int32) (k : Nat) : Bool := s.toBitVec.getLsbD k
theorem bi_ix : ∀ k, k < 6 → (nI k &&& 31) = Int32.ofNat k := by decide
theorem bi_mod : ∀ k, k < 6 → ((Int32.ofNat k).toBitVec.smod 32).toNat = k := by decide
theorem bi_zero (x : BitVec 32) : x &&& 1#32 = 0#32 ↔ x.getLsbD 0 = false := by
  rw [BitVec.and_one_eq_setWidth_ofBool_getLsbD]
  cases h : x.getLsbD 0 <;> simp
theorem gi_shr (s : Int32) {k : Nat} (hk : k < 6) : (s >>> (nI k &&& 31)) &&& 1 = 0 ↔ gi s k = false := by
  rw [bi_ix k hk, ← Int32.toBitVec_inj, Int32.toBitVec_and]
  show (s >>> Int32.ofNat k).toBitVec &&& 1#32 = 0#32 ↔ _
  rw [bi_zero, Int32.toBitVec_shiftRight]
  unfold BitVec.sshiftRight'
  rw [bi_mod k hk, BitVec.getLsbD_sshiftRight]
  unfold gi
  have h1 : k + 0 < 32 := by omega
  simp only [h1]
  simp
theorem gi_or (s t : Int32) (i : Nat) : gi (s ||| t) i = (gi s i || gi t i) := by
  unfold gi
  rw [Int32.toBitVec_or, BitVec.getLsbD_or]
theorem gi_bit : ∀ q, q < 6 → ∀ k, k < 6 → gi ((1 : Int32) <<< (nI q &&& 31)) k = decide (q = k) := by decide
/-- the set of the nodes passed -/
def pmask (ps : Int32) (l : List Int32) : Prop := ∀ k, k < 6 → ((ps >>> (nI k &&& 31)) &&& 1 = 0 ↔ snot (nI k) l = true)
theorem pmask.one {q : Nat} (hq : q < 6) : pmask ((1 : Int32) <<< (nI q &&& 31)) [nI q] := fun k hk => by
  rw [gi_shr _ hk, gi_bit q hq k hk]
  unfold snot snot
  rw [Bool.true_and, decide_eq_true_eq, decide_eq_false_iff_not, xn_inj (by omega) (by omega)]
theorem pmask.cons {ps : Int32} {l : List Int32} {q : Nat} (h : pmask ps l) (hq : q < 6) : pmask (ps ||| ((1 : Int32) <<< (nI q &&& 31))) (nI q :: l) := fun k hk => by
  have := h k hk
  rw [gi_shr _ hk] at this
  rw [gi_shr _ hk, gi_or, gi_bit q hq k hk, Bool.or_eq_false_iff, this]
  show _ ↔ (snot (nI k) l && decide (¬ nI q = nI k)) = true
  rw [Bool.and_eq_true_iff, decide_eq_true_eq, decide_eq_false_iff_not, xn_inj (by omega) (by omega)]
theorem sloop_ext {f g : Nat → SP → SP} : ∀ n i B, (∀ j B, i ≤ j → j < i + n → f j B = g j B) → sloop f i n B = sloop g i n B
  | 0, _, _, _ => by
    rw [sloop, sloop]
  | n + 1, i, B, h => by
    rw [sloop, sloop, h i B (Nat.le_refl _) (by omega)]
    exact sloop_ext n (i + 1) _ (fun j B h1 h2 => h j B (by omega) (by omega))
/-- the amount that a payer pays on -/
theorem fee_eq {S : CS} {A : MS} (C : Cpl S A) {p : Nat} (hp : p < 6) {a : Int32} (h0 : 0 ≤ a.toInt) (h1 : a.toInt ≤ 12000000) : (a + cfee S (nI p) a).toInt64 = sfee A (nI p) a.toInt64 ∧ a.toInt ≤ (a + cfee S (nI p) a).toInt ∧ (a + cfee S (nI p) a).toInt ≤ 30000000 := by
  obtain ⟨y0, y1, y2, y3, y4, y5, y6⟩ := C.1
  obtain ⟨b1, b2, q1, q2⟩ := y6 p hp
  unfold cfee sfee
  rw [y2, y3, xn_clamp (by omega)]
  generalize A.2.1 2 p = b at *
  generalize A.2.1 3 p = q at *
  have hm : 0 ≤ a.toInt * q.toInt := Int.mul_nonneg h0 q1
  have hm2 : a.toInt * q.toInt ≤ 12000000 * 1000000 := Int.mul_le_mul h1 q2 q1 (by omega)
  have e1 : (a.toInt64 * q.toInt64).toInt = a.toInt * q.toInt := by
    rw [Int64.toInt_mul, Int32.toInt_toInt64, Int32.toInt_toInt64]
    exact Int.bmod_eq_of_le (by omega) (by omega)
  have h6 : 0 ≤ (a.toInt * q.toInt) / 1000000 := Int.ediv_nonneg hm (by omega)
  have h7 : (a.toInt * q.toInt) / 1000000 ≤ 12000000 := by omega
  have e2 : (a.toInt64 * q.toInt64 / 1000000).toInt = (a.toInt * q.toInt) / 1000000 := by
    rw [Int64.toInt_div, e1]
    have : (1000000 : Int64).toInt = 1000000 := by decide
    rw [this, Int.tdiv_eq_ediv_of_nonneg hm]
    exact Int.bmod_eq_of_le (by omega) (by omega)
  generalize a.toInt64 * q.toInt64 / 1000000 = d at *
  generalize (a.toInt * q.toInt) / 1000000 = D at *
  have e3 : d.toInt32.toInt = D := by
    rw [Int64.toInt_toInt32, e2]
    exact Int.bmod_eq_of_le (by omega) (by omega)
  have e4 : (b + d.toInt32).toInt = b.toInt + D := by
    rw [i_add (by omega) (by omega), e3]
  have e5 : (a + (b + d.toInt32)).toInt = a.toInt + (b.toInt + D) := by
    rw [i_add (by omega) (by omega), e4]
  refine ⟨?_, by omega, by omega⟩
  rw [← Int64.toInt_inj, Int32.toInt_toInt64, e5, Int64.toInt_add, Int64.toInt_add, Int32.toInt_toInt64, Int32.toInt_toInt64, e2, Int.bmod_eq_of_le (n := a.toInt + b.toInt) (by omega) (by omega), Int.bmod_eq_of_le (by omega) (by omega)]
  omega
theorem kbal_le {S : CS} {A : MS} {j r : Nat} (cc : CC S A j) : (kbal S j r).toInt ≤ 12000000 := by
  obtain ⟨c1, c2, c3, c4, c5, c6, c7, c8, c9⟩ := cc
  obtain ⟨t1, t2, t3, -⟩ := C9.top (k := 0) c6 c9 (Nat.le_refl (kw S j 5))
  obtain ⟨T, hT, hb, -⟩ := c9
  have := hb _ (Nat.le_refl _)
  unfold kbal
  split <;> omega
