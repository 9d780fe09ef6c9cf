/- Part 81: bits of the model's sets. -/
theorem b_ix : ∀ k, k < 64 → ((nI k).toInt64 &&& 63) = Int64.ofNat k ∧ 0 ≤ nI k ∧ nI k < 64 := by decide
theorem b_mod : ∀ k, k < 64 → ((Int64.ofNat k).toBitVec.smod 64).toNat = k := by decide
def gb (s : Int64) (k : Nat) : Bool := s.toBitVec.getLsbD k
theorem b_one (x : BitVec 64) : x &&& 1#64 = 1#64 ↔ x.getLsbD 0 = true := by
  rw [BitVec.and_one_eq_setWidth_ofBool_getLsbD]
  cases h : x.getLsbD 0 <;> simp
theorem b_shr (s : Int64) {k : Nat} (hk : k < 64) (i : Nat) (hi : k + i < 64) : (s >>> Int64.ofNat k).toBitVec.getLsbD i = gb s (k + i) := by
  rw [Int64.toBitVec_shiftRight]
  unfold BitVec.sshiftRight'
  rw [b_mod k hk, BitVec.getLsbD_sshiftRight]
  unfold gb
  have : ¬ 64 ≤ i := by omega
  simp [this, hi]
theorem b_and1 (y : Int64) : y &&& 1 = 1 ↔ y.toBitVec.getLsbD 0 = true := by
  rw [← b_one, ← Int64.toBitVec_inj, Int64.toBitVec_and]
  exact Iff.rfl
theorem mbit_gb (s : Int64) {k : Nat} (hk : k < 64) : mbit s (nI k) = gb s k := by
  unfold mbit
  obtain ⟨e, h0, h1⟩ := b_ix k hk
  rw [e]
  have := b_shr s hk 0 (by omega)
  rw [Nat.add_zero] at this
  rw [← this]
  simp only [h0, h1, true_and, b_and1, Bool.decide_eq_true]
theorem bk_gb {k : Nat} (hk : k < 64) (i : Nat) (hi : i < 64) : gb (bk (nI k)) i = decide (i = k) := by
  unfold bk
  rw [(b_ix k hk).1]
  unfold gb
  rw [Int64.toBitVec_shiftLeft]
  show ((1#64 : BitVec 64) <<< ((Int64.ofNat k).toBitVec.smod 64)).getLsbD i = _
  rw [BitVec.shiftLeft_eq', b_mod k hk, BitVec.getLsbD_shiftLeft]
  rw [BitVec.getLsbD_one]
  by_cases e : i = k
  · subst e
    simp [hi]
  · by_cases h : i < k
    · simp [h, e]
    · have : i - k ≠ 0 := by omega
      simp [e, this]
theorem gb_or (s t : Int64) (i : Nat) : gb (s ||| t) i = (gb s i || gb t i) := by
  unfold gb
  rw [Int64.toBitVec_or, BitVec.getLsbD_or]
theorem gb_del (s : Int64) {k : Nat} (hk : k < 64) (i : Nat) (hi : i < 64) : gb (s &&& (bk (nI k) ^^^ (-1))) i = (gb s i && !decide (i = k)) := by
  rw [← bk_gb hk i hi]
  unfold gb
  rw [Int64.toBitVec_and, Int64.toBitVec_xor, BitVec.getLsbD_and, BitVec.getLsbD_xor]
  have : (-1 : Int64).toBitVec = BitVec.allOnes 64 := by decide
  rw [this, BitVec.getLsbD_allOnes]
  simp [hi]
theorem gb_add (s : Int64) {k : Nat} (hk : k < 64) (i : Nat) (hi : i < 64) : gb (s ||| bk (nI k)) i = (gb s i || decide (i = k)) := by
  rw [gb_or, bk_gb hk i hi]
theorem gb_zero (s : Int64) : s = 0 ↔ ∀ i, i < 64 → gb s i = false := by
  constructor
  · intro h i _
    subst h
    unfold gb
    simp
  · intro h
    rw [← Int64.toBitVec_inj]
    apply BitVec.eq_of_getLsbD_eq
    intro i hi
    have := h i hi
    unfold gb at this
    rw [this]
    simp
/-- how many of the first n hold -/
def cnt (p : Nat → Bool) : Nat → Nat
  | 0 => 0
  | k + 1 => if p k = true then cnt p k + 1 else cnt p k
theorem cnt_ext {p q : Nat → Bool} : ∀ n, (∀ i, i < n → p i = q i) → cnt p n = cnt q n
  | 0, _ => rfl
  | n + 1, h => by
    unfold cnt
    rw [cnt_ext n (fun i hi => h i (by omega)), h n (by omega)]
theorem cnt_le {p : Nat → Bool} : ∀ n, cnt p n ≤ n
  | 0 => Nat.le_refl 0
  | n + 1 => by
    unfold cnt
    have := cnt_le (p := p) n
    split <;> omega
theorem cnt_mono {p q : Nat → Bool} : ∀ n, (∀ i, i < n → p i = true → q i = true) → cnt p n ≤ cnt q n
  | 0, _ => Nat.le_refl 0
  | n + 1, h => by
    unfold cnt
    have := cnt_mono n (fun i hi => h i (by omega))
    by_cases e : p n = true
    · rw [if_pos e, if_pos (h n (by omega) e)]
      omega
    · rw [if_neg e]
      split <;> omega
theorem cnt_more {p : Nat → Bool} {n : Nat} : ∀ m, (∀ i, n ≤ i → i < n + m → p i = false) → cnt p (n + m) = cnt p n
  | 0, _ => rfl
  | m + 1, h => by
    show (if p (n + m) = true then cnt p (n + m) + 1 else cnt p (n + m)) = _
    rw [h (n + m) (by omega) (by omega), if_neg (by decide)]
    exact cnt_more m (fun i h1 h2 => h i h1 (by omega))
theorem cnt_zero {p : Nat → Bool} : ∀ n, cnt p n = 0 ↔ ∀ i, i < n → p i = false
  | 0 => ⟨fun _ i hi => absurd hi (by omega), fun _ => rfl⟩
  | n + 1 => by
    unfold cnt
    have := cnt_zero (p := p) n
    cases hp : p n with
    | true =>
      rw [if_pos rfl]
      constructor
      · intro h
        omega
      · intro h
        rw [h n (by omega)] at hp
        cases hp
    | false =>
      rw [if_neg (by decide), this]
      constructor
      · intro h i hi
        by_cases e : i = n
        · rw [e]
          exact hp
        · exact h i (by omega)
      · intro h i hi
        exact h i (by omega)
theorem b_low (y : Int64) : (y &&& 1).toInt32 = if y.toBitVec.getLsbD 0 = true then 1 else 0 := by
  have e : (y &&& 1).toBitVec = BitVec.setWidth 64 (BitVec.ofBool (y.toBitVec.getLsbD 0)) := by
    rw [Int64.toBitVec_and, ← BitVec.and_one_eq_setWidth_ofBool_getLsbD]
    rfl
  cases h : y.toBitVec.getLsbD 0 with
  | true =>
    rw [h] at e
    have : y &&& 1 = 1 := by
      rw [← Int64.toBitVec_inj, e]
      rfl
    rw [this]
    rfl
  | false =>
    rw [h] at e
    have : y &&& 1 = 0 := by
      rw [← Int64.toBitVec_inj, e]
      rfl
    rw [this]
    rfl
theorem bitsN_cnt (s : Int64) : ∀ n, n ≤ 64 → bitsN s n = nI (cnt (gb s) n)
  | 0, _ => rfl
  | n + 1, h => by
    unfold bitsN cnt
    rw [bitsN_cnt s n (by omega), (b_ix n (by omega)).1, b_low]
    have := b_shr s (k := n) (by omega) 0 (by omega)
    rw [Nat.add_zero] at this
    rw [this]
    by_cases e : gb s n = true
    · rw [if_pos e, if_pos e]
      exact xn_succ _
    · rw [if_neg e, if_neg e]
      exact Int32.add_zero _
theorem cpr_cnt (mi gi : Nat → Int32) (l : Int32) : ∀ n, cpr mi gi l n = nI (cnt (fun k => isIn0 (mi k) (gi k) l) n)
  | 0 => rfl
  | n + 1 => by
    unfold cpr cnt
    rw [cpr_cnt mi gi l n]
    by_cases e : isIn0 (mi n) (gi n) l = true
    · rw [if_pos e, if_pos e]
      exact xn_succ _
    · rw [if_neg e, if_neg e]
/-- the sum of those of the first n that hold -/
def sm (p : Nat → Bool) (f : Nat → Int) : Nat → Int
  | 0 => 0
  | k + 1 => if p k = true then sm p f k + f k else sm p f k
theorem sm_ext {p q : Nat → Bool} {f g : Nat → Int} : ∀ n, (∀ i, i < n → p i = q i) → (∀ i, i < n → p i = true → f i = g i) → sm p f n = sm q g n
  | 0, _, _ => rfl
  | n + 1, h, h2 => by
    unfold sm
    rw [sm_ext n (fun i hi => h i (by omega)) (fun i hi => h2 i (by omega)), ← h n (by omega)]
    by_cases e : p n = true
    · rw [if_pos e, if_pos e, h2 n (by omega) e]
    · rw [if_neg e, if_neg e]
theorem sm_nonneg {p : Nat → Bool} {f : Nat → Int} : ∀ n, (∀ i, i < n → p i = true → 0 ≤ f i) → 0 ≤ sm p f n
  | 0, _ => Int.le_refl 0
  | n + 1, h => by
    unfold sm
    have := sm_nonneg (p := p) (f := f) n (fun i hi => h i (by omega))
    split
    · have := h n (by omega) (by assumption)
      omega
    · exact this
theorem sm_pos {p : Nat → Bool} {f : Nat → Int} : ∀ n, (∀ i, i < n → p i = true → 1 ≤ f i) → (sm p f n = 0 ↔ ∀ i, i < n → p i = false)
  | 0, _ => ⟨fun _ i hi => absurd hi (by omega), fun _ => rfl⟩
  | n + 1, h => by
    unfold sm
    have h1 := sm_pos (p := p) (f := f) n (fun i hi => h i (by omega))
    have h2 := sm_nonneg (p := p) (f := f) n (fun i hi e => by have := h i (by omega) e; omega)
    cases hp : p n with
    | true =>
      rw [if_pos rfl]
      have := h n (by omega) hp
      constructor
      · intro h
        omega
      · intro h
        rw [h n (by omega)] at hp
        cases hp
    | false =>
      rw [if_neg (by decide), h1]
      constructor
      · intro h i hi
        by_cases e : i = n
        · rw [e]
          exact hp
        · exact h i (by omega)
      · intro h i hi
        exact h i (by omega)
theorem sm_le {p : Nat → Bool} {f : Nat → Int} {k : Nat} : ∀ n, (∀ i, i < n → p i = true → 0 ≤ f i) → k < n → p k = true → f k ≤ sm p f n
  | 0, _, hk, _ => absurd hk (by omega)
  | n + 1, h, hk, hp => by
    unfold sm
    have h2 := sm_nonneg (p := p) (f := f) n (fun i hi e => h i (by omega) e)
    by_cases e : k = n
    · subst e
      rw [if_pos hp]
      omega
    · have h3 := sm_le (p := p) (f := f) n (fun i hi e => h i (by omega) e) (by omega) hp
      split
      · have := h n (by omega) (by assumption)
        omega
      · exact h3
/-- one less -/
theorem sm_del {p : Nat → Bool} {f : Nat → Int} {k : Nat} : ∀ n, k < n → p k = true → sm (fun i => p i && !decide (i = k)) f n = sm p f n - f k
  | 0, hk, _ => absurd hk (by omega)
  | n + 1, hk, hp => by
    unfold sm
    by_cases e : k = n
    · subst e
      rw [if_pos hp]
      simp only [decide_true, Bool.not_true, Bool.and_false, Bool.false_eq_true, if_false]
      rw [sm_ext (q := p) (g := f) k (fun i hi => by have : i ≠ k := by omega
                                                     simp [this]) (fun i _ _ => rfl)]
      omega
    · rw [sm_del n (by omega) hp]
      have : n ≠ k := fun z => e z.symm
      simp only [this, decide_false, Bool.not_false, Bool.and_true]
      split <;> omega
theorem spr_sm (am mi gi : Nat → Int32) (l : Int32) : ∀ n, spr am mi gi l n = Int32.ofInt (sm (fun k => isIn0 (mi k) (gi k) l) (fun k => (am k).toInt) n)
  | 0 => rfl
  | n + 1 => by
    unfold spr sm
    rw [spr_sm am mi gi l n]
    by_cases e : isIn0 (mi n) (gi n) l = true
    · rw [if_pos e, if_pos e, Int32.ofInt_add, Int32.ofInt_toInt]
    · rw [if_neg e, if_neg e]
