/- Part 45: lists: size and get; a channel's promises in a state. -/
/-- at a lies a list of the n objects q -/
def aL (h : XH) (a : Nat) (q : Nat → Nat) (n : Nat) : Prop := ∃ (e : Nat) (mo : Int32) (cap : Nat) (ro : Bool) (g : Nat → Option Nat), xget h a = some (.inr (2, [.ref e, .int (nI n), .int mo])) ∧ n ≤ cap ∧ cap ≤ 1024 ∧ xget h e = some (.inl (ro, .object "java/lang/Object", cap, .inr (.inr (.inr (.inr g))))) ∧ ∀ j, j < n → g j = some (q j)
section X45
variable {D : va_G} {N0 : Nat} {M : XM} {d a n j pc nx idx : Nat} {h : XH} {q : Nat → Nat} {lv : XL} {Q : Outcome → XH → Prop}
theorem c_A_size {e : Nat} {mo : Int32} (ha : xget h a = some (.inr (2, [.ref e, .int (nI n), .int mo]))) : xV D N0 mA_size d 0 (xargs 1 [.ref a]) [] h (xEq (.returned (some (.int (nI n)))) h) := by
  refine xV.step rfl ?_
  refine xV.get xcl_ok rfl ha rfl ?_
  exact xV.iret rfl rfl rfl ⟨rfl, rfl⟩
theorem c_pre_checkIndex (hj : j < n) (hn : n ≤ 1024) : xV D N0 mPreconditions_checkIndex d 0 (xargs 3 [.int (nI j), .int (nI n), .null]) [] h (xEq (.returned (some (.int (nI j)))) h) := by
  refine xV.step rfl ?_
  refine xV.br rfl (fun h1 => absurd h1 (xn_nonneg (by omega))) (fun h1 => ?_)
  repeat' refine xV.step rfl ?_
  refine xV.br rfl (fun h2 => ?_) (fun h2 => ?_)
  · refine xV.step rfl ?_
    exact xV.iret rfl rfl rfl ⟨rfl, rfl⟩
  · rw [xn_lt (by omega) (by omega)] at h2
    omega
theorem c_obj_checkIndex (hj : j < n) (hn : n ≤ 1024) : xV D N0 mObjects_checkIndex (d + 1) 0 (xargs 2 [.int (nI j), .int (nI n)]) [] h (xEq (.returned (some (.int (nI j)))) h) := by
  repeat' refine xV.step rfl ?_
  refine xV.cS rfl rfl g_mObjects_checkIndex_105 mPreconditions_checkIndex_ok (Nat.le_of_ble_eq_true rfl) (Nat.le_of_ble_eq_true rfl) (c_pre_checkIndex hj hn) ?_
  exact xV.iret rfl rfl rfl ⟨rfl, rfl⟩
theorem c_A_get (ha : aL h a q n) (hj : j < n) : xV D N0 mA_get (d + 2) 0 (xargs 2 [.ref a, .int (nI j)]) [] h (xEq (.returned (some (.ref (q j)))) h) := by
  obtain ⟨e, mo, cap, ro, g, h1, h2, h3, h4, h5⟩ := ha
  have he : xV D N0 mA_elementData (d + 1) 0 (xargs 2 [.ref a, .int (nI j)]) [] h (xEq (.returned (some (.ref (q j)))) h) := by
    refine xV.step rfl ?_
    refine xV.get xcl_ok rfl h1 rfl ?_
    refine xV.step rfl ?_
    refine xV.aald rfl h4 (xn_in (by omega) (by omega)) ?_
    rw [xn_clamp (by omega), h5 j hj]
    exact xV.aret rfl rfl (Or.inl ⟨_, rfl⟩) (Or.inr ⟨_, rfl⟩) ⟨rfl, rfl⟩
  repeat' first
    | refine xV.step rfl ?_
    | refine xV.get xcl_ok rfl h1 rfl ?_
  refine xV.cS rfl rfl g_mA_get_118 mObjects_checkIndex_ok (Nat.le_of_ble_eq_true rfl) (Nat.le_of_ble_eq_true rfl) (c_obj_checkIndex hj (by omega)) ?_
  repeat' refine xV.step rfl ?_
  refine xV.cV rfl rfl h1 rfl g_mA_get_123 mA_elementData_ok (Nat.le_of_ble_eq_true rfl) (Nat.le_of_ble_eq_true rfl) he ?_
  exact xV.aret rfl rfl (Or.inl ⟨_, rfl⟩) (Or.inr ⟨_, rfl⟩) ⟨rfl, rfl⟩
/-- a list's size, in a method -/
theorem xV.lsz {r : List Value} (hL : aL h a q n) (hq : xon M pc = some (.invokevirtual idx, nx)) (hw : xcv "java/util/ArrayList" M mA_size idx 0) (hcat : (r.map fun v => v.category).sum + (mA_size.2.2.1 + 11) ≤ 64) (k : xV D N0 M (d + 1) nx lv (.int (nI n) :: r) h Q) : xV D N0 M (d + 1) pc lv (.ref a :: r) h Q := by
  obtain ⟨e, mo, cap, ro, g, h1, h2, h3, h4, h5⟩ := hL
  exact xV.cV (as := []) (rest := r) hq rfl h1 rfl hw mA_size_ok (Nat.le_of_ble_eq_true rfl) hcat (c_A_size h1) k
/-- a list's element, in a method -/
theorem xV.lgt {r : List Value} {i : Int32} (hL : aL h a q n) (hi : i = nI j) (hj : j < n) (hq : xon M pc = some (.invokevirtual idx, nx)) (hw : xcv "java/util/ArrayList" M mA_get idx 1) (hcat : (r.map fun v => v.category).sum + (mA_get.2.2.1 + 11) ≤ 64) (k : xV D N0 M (d + 3) nx lv (.ref (q j) :: r) h Q) : xV D N0 M (d + 3) pc lv (.int i :: .ref a :: r) h Q := by
  subst hi
  obtain ⟨e, mo, cap, ro, g, h1, -⟩ := id hL
  exact xV.cV (as := [.int (nI j)]) (rest := r) hq rfl h1 rfl hw mA_get_ok (Nat.le_of_ble_eq_true rfl) hcat (c_A_get hL hj) k
end X45
def cpr (mi gi : Nat → Int32) (l : Int32) : Nat → Int32
  | 0 => 0
  | k + 1 => if isIn0 (mi k) (gi k) l = true then cpr mi gi l k + 1 else cpr mi gi l k
def spr (am mi gi : Nat → Int32) (l : Int32) : Nat → Int32
  | 0 => 0
  | k + 1 => if isIn0 (mi k) (gi k) l = true then spr am mi gi l k + am k else spr am mi gi l k
def aP (h : XH) (q : Nat → Nat) (n : Nat) (am mi gi : Nat → Int32) : Prop := ∀ k, k < n → ∃ (p p' : Int32) (lo : Int64) (dl : Int32) (po : Bool), xget h (q k) = some (.inr (5, prF p p' (am k) lo dl (mi k) (gi k) po))
section Y45
variable {D : va_G} {N0 : Nat} {d a n : Nat} {h : XH} {f s la st he pu pd pa : Int32} {b1 b2 pl : Nat} {se : Bool} {q : Nat → Nat} {am mi gi : Nat → Int32} {l : Int32}
theorem c_C_promisesIn_loop (ha : xget h a = some (.inr (4, chF f s b1 b2 pl la st he pu pd pa se))) (hL : aL h pl q n) (hn : n ≤ 64) (hP : aP h q n am mi gi) : ∀ m j, j + m = n →
    xV D N0 mC_promisesIn (d + 3) 4 [some (.ref a), some (.int l), some (.int (cpr mi gi l j)), some (.int (nI j))] [] h (xEq (.returned (some (.int (cpr mi gi l n)))) h) := by
  intro m
  induction m with
  | zero =>
    intro j hj
    obtain rfl : j = n := by omega
    refine xV.step rfl ?_
    refine xV.step rfl ?_
    refine xV.get xcl_ok rfl ha rfl ?_
    refine xV.lsz hL rfl g_mC_promisesIn_54 (Nat.le_of_ble_eq_true rfl) ?_
    refine xV.br rfl (fun h1 => ?_) (fun h1 => ?_)
    · refine xV.step rfl ?_
      exact xV.iret rfl rfl rfl ⟨rfl, rfl⟩
    · rw [xn_le (by omega) (by omega)] at h1
      omega
  | succ m ih =>
    intro j hj
    refine xV.step rfl ?_
    refine xV.step rfl ?_
    refine xV.get xcl_ok rfl ha rfl ?_
    refine xV.lsz hL rfl g_mC_promisesIn_54 (Nat.le_of_ble_eq_true rfl) ?_
    refine xV.br rfl (fun h1 => ?_) (fun h1 => ?_)
    · rw [xn_le (by omega) (by omega)] at h1
      omega
    obtain ⟨p, p', lo, dl, po, hk⟩ := hP j (by omega)
    refine xV.step rfl ?_
    refine xV.get xcl_ok rfl ha rfl ?_
    refine xV.step rfl ?_
    refine xV.lgt hL rfl (by omega) rfl g_mC_promisesIn_58 (Nat.le_of_ble_eq_true rfl) ?_
    refine xV.cast rfl hk rfl k_mC_promisesIn_62 ?_
    refine xV.step rfl ?_
    refine xV.cV rfl rfl hk rfl g_mC_promisesIn_64 mP_isIn_ok (Nat.le_of_ble_eq_true rfl) (Nat.le_of_ble_eq_true rfl) (c_P_isIn hk) ?_
    have ih := ih (j + 1) (by omega)
    rw [← xn_succ, cpr] at ih
    refine xV.br rfl (fun h2 => ?_) (fun h2 => ?_)
    · rw [if_neg (by rw [xB_f h2]; decide)] at ih
      refine xV.step rfl ?_
      refine xV.step rfl ?_
      exact ih
    · rw [if_pos (xB_t h2)] at ih
      refine xV.step rfl ?_
      refine xV.step rfl ?_
      refine xV.step rfl ?_
      exact ih
theorem c_C_promisesIn (ha : xget h a = some (.inr (4, chF f s b1 b2 pl la st he pu pd pa se))) (hL : aL h pl q n) (hn : n ≤ 64) (hP : aP h q n am mi gi) :
    xV D N0 mC_promisesIn (d + 3) 0 (xargs 4 [.ref a, .int l]) [] h (xEq (.returned (some (.int (cpr mi gi l n)))) h) := by
  refine xV.step rfl ?_
  refine xV.step rfl ?_
  refine xV.step rfl ?_
  refine xV.step rfl ?_
  exact c_C_promisesIn_loop ha hL hn hP n 0 (by omega)
theorem c_C_promisedIn_loop (ha : xget h a = some (.inr (4, chF f s b1 b2 pl la st he pu pd pa se))) (hL : aL h pl q n) (hn : n ≤ 64) (hP : aP h q n am mi gi) : ∀ m j, j + m = n →
    xV D N0 mC_promisedIn (d + 3) 4 [some (.ref a), some (.int l), some (.int (spr am mi gi l j)), some (.int (nI j))] [] h (xEq (.returned (some (.int (spr am mi gi l n)))) h) := by
  intro m
  induction m with
  | zero =>
    intro j hj
    obtain rfl : j = n := by omega
    refine xV.step rfl ?_
    refine xV.step rfl ?_
    refine xV.get xcl_ok rfl ha rfl ?_
    refine xV.lsz hL rfl g_mC_promisedIn_54 (Nat.le_of_ble_eq_true rfl) ?_
    refine xV.br rfl (fun h1 => ?_) (fun h1 => ?_)
    · refine xV.step rfl ?_
      exact xV.iret rfl rfl rfl ⟨rfl, rfl⟩
    · rw [xn_le (by omega) (by omega)] at h1
      omega
  | succ m ih =>
    intro j hj
    refine xV.step rfl ?_
    refine xV.step rfl ?_
    refine xV.get xcl_ok rfl ha rfl ?_
    refine xV.lsz hL rfl g_mC_promisedIn_54 (Nat.le_of_ble_eq_true rfl) ?_
    refine xV.br rfl (fun h1 => ?_) (fun h1 => ?_)
    · rw [xn_le (by omega) (by omega)] at h1
      omega
    obtain ⟨p, p', lo, dl, po, hk⟩ := hP j (by omega)
    refine xV.step rfl ?_
    refine xV.get xcl_ok rfl ha rfl ?_
    refine xV.step rfl ?_
    refine xV.lgt hL rfl (by omega) rfl g_mC_promisedIn_58 (Nat.le_of_ble_eq_true rfl) ?_
    refine xV.cast rfl hk rfl k_mC_promisedIn_62 ?_
    refine xV.step rfl ?_
    refine xV.cV rfl rfl hk rfl g_mC_promisedIn_64 mP_isIn_ok (Nat.le_of_ble_eq_true rfl) (Nat.le_of_ble_eq_true rfl) (c_P_isIn hk) ?_
    have ih := ih (j + 1) (by omega)
    rw [← xn_succ, spr] at ih
    refine xV.br rfl (fun h2 => ?_) (fun h2 => ?_)
    · rw [if_neg (by rw [xB_f h2]; decide)] at ih
      refine xV.step rfl ?_
      refine xV.step rfl ?_
      exact ih
    · rw [if_pos (xB_t h2)] at ih
      refine xV.step rfl ?_
      refine xV.step rfl ?_
      refine xV.get xcl_ok rfl ha rfl ?_
      refine xV.step rfl ?_
      refine xV.lgt hL rfl (by omega) rfl g_mC_promisedIn_58 (Nat.le_of_ble_eq_true rfl) ?_
      refine xV.cast rfl hk rfl k_mC_promisedIn_62 ?_
      refine xV.get xcl_ok rfl hk rfl ?_
      refine xV.step rfl ?_
      refine xV.step rfl ?_
      refine xV.step rfl ?_
      refine xV.step rfl ?_
      exact ih
theorem c_C_promisedIn (ha : xget h a = some (.inr (4, chF f s b1 b2 pl la st he pu pd pa se))) (hL : aL h pl q n) (hn : n ≤ 64) (hP : aP h q n am mi gi) :
    xV D N0 mC_promisedIn (d + 3) 0 (xargs 4 [.ref a, .int l]) [] h (xEq (.returned (some (.int (spr am mi gi l n)))) h) := by
  refine xV.step rfl ?_
  refine xV.step rfl ?_
  refine xV.step rfl ?_
  refine xV.step rfl ?_
  exact c_C_promisedIn_loop ha hL hn hP n 0 (by omega)
def ccar (f la st x y : Int32) (n : Nat) (mi gi : Nat → Int32) (p v : Int32) : Bool := decide (st = 0 ∧ v ≤ (if p = f then x else y) ∧ cpr mi gi la n < 6)
theorem c_C_canCarry {c1 c2 : Nat → Int32} {L : Nat} {p v : Int32} (ha : xget h a = some (.inr (4, chF f s b1 b2 pl (nI L) st he pu pd pa se))) (h1 : xget h b1 = some (.inl (false, .int, 64, .inl c1))) (h2 : xget h b2 = some (.inl (false, .int, 64, .inl c2))) (hl : L < 64) (hL : aL h pl q n) (hn : n ≤ 64) (hP : aP h q n am mi gi) :
    xV D N0 mC_canCarry (d + 4) 0 (xargs 4 [.ref a, .int p, .int v]) [] h (xEq (.returned (some (.int (xB (ccar f (nI L) st (c1 L) (c2 L) n mi gi p v))))) h) := by
  have go : ∀ z : Int32, (if p = f then c1 L else c2 L) = z → xV D N0 mC_canCarry (d + 4) 29 (xargs 4 [.ref a, .int p, .int v]) [.int z] h (xEq (.returned (some (.int (xB (ccar f (nI L) st (c1 L) (c2 L) n mi gi p v))))) h) := by
    intro z hz
    unfold ccar
    rw [hz]
    refine xV.step rfl ?_
    refine xV.step rfl ?_
    refine xV.get xcl_ok rfl ha rfl ?_
    refine xV.br rfl (fun k1 => ?_) (fun k1 => ?_)
    case refine_2 =>
      refine xV.step rfl ?_
      exact xV.iret rfl rfl rfl ⟨xB0 (fun y => k1 y.1), rfl⟩
    repeat' refine xV.step rfl ?_
    refine xV.br rfl (fun k2 => ?_) (fun k2 => ?_)
    · refine xV.step rfl ?_
      exact xV.iret rfl rfl rfl ⟨xB0 (fun y => by have := y.2.1; simp only [Int32.lt_iff_toInt_lt, Int32.le_iff_toInt_le] at *; omega), rfl⟩
    repeat' first
      | refine xV.step rfl ?_
      | refine xV.get xcl_ok rfl ha rfl ?_
    refine xV.cV rfl rfl ha rfl g_mC_canCarry_71 mC_promisesIn_ok (Nat.le_of_ble_eq_true rfl) (Nat.le_of_ble_eq_true rfl) (c_C_promisesIn ha hL hn hP) ?_
    refine xV.step rfl ?_
    refine xV.br rfl (fun k3 => ?_) (fun k3 => ?_)
    · refine xV.step rfl ?_
      exact xV.iret rfl rfl rfl ⟨xB0 (fun y => by have := y.2.2; simp only [Int32.lt_iff_toInt_lt, Int32.le_iff_toInt_le] at *; omega), rfl⟩
    · refine xV.step rfl ?_
      refine xV.step rfl ?_
      exact xV.iret rfl rfl rfl ⟨xB1 ⟨k1, by simp only [Int32.lt_iff_toInt_lt, Int32.le_iff_toInt_le] at *; omega, by simp only [Int32.lt_iff_toInt_lt, Int32.le_iff_toInt_le] at *; omega⟩, rfl⟩
  repeat' first
    | refine xV.step rfl ?_
    | refine xV.get xcl_ok rfl ha rfl ?_
  refine xV.br rfl (fun k1 => ?_) (fun k1 => ?_)
  · repeat' first
      | refine xV.step rfl ?_
      | refine xV.get xcl_ok rfl ha rfl ?_
    refine xV.ii (j := L) rfl h1 rfl hl (by omega) ?_
    refine xV.step rfl ?_
    exact go _ (if_pos k1)
  · repeat' first
      | refine xV.step rfl ?_
      | refine xV.get xcl_ok rfl ha rfl ?_
    refine xV.ii (j := L) rfl h2 rfl hl (by omega) ?_
    exact go _ (if_neg k1)
end Y45
