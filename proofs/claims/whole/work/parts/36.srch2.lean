/- Part 36: the search: the order in which routes are met; the model's search. -/
def sloop (f : Nat → SP → SP) (i : Nat) : Nat → SP → SP
  | 0, B => B
  | n + 1, B => sloop f (i + 1) n (f i B)
termination_by structural n => n
def svis (to : Int32) : SP → List Int32
  | [] => [to]
  | e :: T => e.2.1 :: svis to T
def snot (p : Int32) : List Int32 → Bool
  | [] => true
  | q :: l => snot p l && decide (¬ q = p)
def sfree (v : Nat → Int32) (p : Int32) : Nat → Bool
  | 0 => true
  | n + 1 => sfree v p n && decide (¬ v n = p)
def shd (to : Int32) : SP → Int32
  | [] => to
  | e :: _ => e.2.1
def spay (A : MS) (i : Nat) (x : Int32) : Int32 := mnode A i (1 - mside A i x)
def sokb (A : MS) (L : Nat → Nat) (to : Int32) (a : Int64) (T : SP) (i : Nat) : Bool := (decide (¬ mside A i (shd to T) = -1) && mcarr A i (L i) (1 - msd A i (shd to T)) a) && snot (spay A i (shd to T)) (svis to T)
def sfee (A : MS) (p : Int32) (a : Int64) : Int64 := a + (A.2.1 2 p.toNatClampNeg).toInt64 + a * (A.2.1 3 p.toNatClampNeg).toInt64 / 1000000
def sone (nxt : Int64 → SP → SP → SP) (A : MS) (L : Nat → Nat) (fr to : Int32) (a : Int64) (T : SP) (i : Nat) (B : SP) : SP :=
  if sokb A L to a T i = true then (if spay A i (shd to T) = fr then (if sbet a ((i, spay A i (shd to T), a) :: T) B = true then (i, spay A i (shd to T), a) :: T else B) else nxt (sfee A (spay A i (shd to T)) a) ((i, spay A i (shd to T), a) :: T) B) else B
def sgo (A : MS) (L : Nat → Nat) (C : Nat) (fr to : Int32) : Nat → Int64 → SP → SP → SP
  | 0, _, _, B => B
  | k + 1, a, T, B => sloop (sone (sgo A L C fr to k) A L fr to a T) 0 C B
def sSame (A A' : MS) : Prop := (∀ j, j ≠ 28 → j ≠ 30 → A'.1 j = A.1 j) ∧ (∀ k, k ≠ 25 → k ≠ 26 → k ≠ 28 → A'.2.1 k = A.2.1 k) ∧ (∀ k, k ≠ 27 → A'.2.2 k = A.2.2 k)
theorem sSame.i {A A' : MS} {k i : Nat} {x : Int32} (hs : sSame A A') (hk : k = 25 ∨ k = 26 ∨ k = 28) : sSame A (mI A' k i x) := by
  refine ⟨hs.1, fun q h1 h2 h3 => ?_, hs.2.2⟩
  rw [← hs.2.1 q h1 h2 h3]
  show (if q = k then _ else _) = _
  rw [if_neg (by omega)]
theorem sSame.j {A A' : MS} {i : Nat} {x : Int64} (hs : sSame A A') : sSame A (mJ A' 27 i x) := by
  refine ⟨hs.1, hs.2.1, fun q h1 => ?_⟩
  rw [← hs.2.2 q h1]
  show (if q = 27 then _ else _) = _
  rw [if_neg h1]
theorem sSame.f {A A' : MS} {j : Nat} {x : Int32} (hs : sSame A A') (hj : j = 28 ∨ j = 30) : sSame A (mF A' j x) := by
  refine ⟨fun q h1 h2 => ?_, hs.2.1, hs.2.2⟩
  rw [← hs.1 q h1 h2]
  have : q ≠ j := by omega
  simp [mF, upd, this]
theorem sSame.side {A A' : MS} (hs : sSame A A') (i : Nat) (x : Int32) : mside A' i x = mside A i x := by
  unfold mside
  rw [hs.2.1 6 (by omega) (by omega) (by omega), hs.2.1 7 (by omega) (by omega) (by omega)]
theorem sSame.node {A A' : MS} (hs : sSame A A') (i : Nat) (x : Int32) : mnode A' i x = mnode A i x := by
  unfold mnode
  rw [hs.2.1 6 (by omega) (by omega) (by omega), hs.2.1 7 (by omega) (by omega) (by omega)]
theorem sSame.carr {A A' : MS} (hs : sSame A A') (j l s : Nat) (a : Int64) : mcarr A' j l s a = mcarr A j l s a := by
  unfold mcarr
  rw [hs.2.1 8 (by omega) (by omega) (by omega), hs.2.1 10 (by omega) (by omega) (by omega), hs.2.2 11 (by omega)]
theorem RepT.hd {w : Nat → Int32} {b : Nat → Int64} {v : Nat → Int32} {to : Int32} : ∀ {T : SP}, RepT w b v to T → v T.length = shd to T
  | [], h => h
  | _ :: _, h => h.2.2.2.1
theorem RepT.congr {w w' : Nat → Int32} {b b' : Nat → Int64} {v v' : Nat → Int32} {to : Int32} : ∀ {T : SP}, (∀ j, j < T.length → w' j = w j ∧ b' j = b j) → (∀ j, j ≤ T.length → v' j = v j) → RepT w b v to T → RepT w' b' v' to T
  | [], _, hv, h => by rw [RepT, hv 0 (Nat.le_refl _)]; exact h
  | e :: T, hw, hv, h => by
    have hl : (e :: T).length = T.length + 1 := rfl
    rw [hl] at hw hv
    refine ⟨?_, h.2.1, ?_, ?_, RepT.congr (fun j hj => hw j (by omega)) (fun j hj => hv j (by omega)) h.2.2.2.2⟩
    · rw [(hw T.length (by omega)).1]; exact h.1
    · rw [(hw T.length (by omega)).2]; exact h.2.2.1
    · rw [hv (T.length + 1) (by omega)]; exact h.2.2.2.1
theorem RepT.free {w : Nat → Int32} {b : Nat → Int64} {v : Nat → Int32} {to p : Int32} : ∀ {T : SP}, RepT w b v to T → sfree v p (T.length + 1) = snot p (svis to T)
  | [], h => by
    show (true && decide (¬ v 0 = p)) = (true && decide (¬ to = p))
    rw [show v 0 = to from h]
  | e :: T, h => by
    show (sfree v p (T.length + 1) && decide (¬ v (T.length + 1) = p)) = (snot p (svis to T) && decide (¬ e.2.1 = p))
    rw [h.2.2.2.2.free, h.2.2.2.1]
theorem mI_self (A : MS) (k i : Nat) (x : Int32) : (mI A k i x).2.1 k i = x := by simp [mI, upd]
theorem mI_ne {A : MS} {k i j : Nat} {x : Int32} (h : j ≠ i) : (mI A k i x).2.1 k j = A.2.1 k j := by simp [mI, upd, h]
theorem mJ_self (A : MS) (k i : Nat) (x : Int64) : (mJ A k i x).2.2 k i = x := by simp [mJ, vp_updL]
theorem mJ_ne {A : MS} {k i j : Nat} {x : Int64} (h : j ≠ i) : (mJ A k i x).2.2 k j = A.2.2 k j := by simp [mJ, vp_updL, h]
def mR (A : MS) (r : Nat → Int32) : MS := (A.1, fun a => if a = 25 then r else A.2.1 a, A.2.2)
theorem mR_self (A : MS) : mR A (A.2.1 25) = A := by
  refine Prod.ext rfl (Prod.ext ?_ rfl)
  funext a
  show (if a = 25 then A.2.1 25 else A.2.1 a) = A.2.1 a
  by_cases ha : a = 25
  · rw [if_pos ha, ha]
  · rw [if_neg ha]
theorem mR_mI (A : MS) (s : Nat) (x : Int32) (r : Nat → Int32) : mR (mI A 25 s x) r = mR A r := by
  refine Prod.ext rfl (Prod.ext ?_ rfl)
  funext a
  show (if a = 25 then r else if a = 25 then _ else A.2.1 a) = (if a = 25 then r else A.2.1 a)
  by_cases ha : a = 25
  · rw [if_pos ha, if_pos ha]
  · rw [if_neg ha, if_neg ha, if_neg ha]
theorem sSame.r {A A' : MS} {r : Nat → Int32} (hs : sSame A A') : sSame A (mR A' r) := by
  refine ⟨hs.1, fun q h1 h2 h3 => ?_, hs.2.2⟩
  rw [← hs.2.1 q h1 h2 h3]
  show (if q = 25 then _ else _) = _
  rw [if_neg h1]
theorem xn_dec (t : Nat) : nI (t + 1) + (-1) = nI t := by
  rw [← xn_succ]
  generalize nI t = x
  rw [Int32.add_assoc]
  exact Int32.add_zero x
theorem sfee_nn {A : MS} {p : Int32} {a : Int64} (h1 : 0 ≤ (A.2.1 2 p.toNatClampNeg).toInt) (h2 : 0 ≤ (A.2.1 3 p.toNatClampNeg).toInt) (h3 : (A.2.1 3 p.toNatClampNeg).toInt ≤ 1000000) (h4 : 0 ≤ a.toInt) (h5 : a.toInt < 2 ^ 31) : 0 ≤ (sfee A p a).toInt := by
  unfold sfee
  generalize A.2.1 2 p.toNatClampNeg = b at *
  generalize A.2.1 3 p.toNatClampNeg = q at *
  have hb := Int32.toInt_lt b
  have hm : 0 ≤ a.toInt * q.toInt := Int.mul_nonneg h4 h2
  have hm2 : a.toInt * q.toInt ≤ 2 ^ 31 * 1000000 := Int.mul_le_mul (by omega) h3 h2 (by omega)
  have e1 : (a * q.toInt64).toInt = a.toInt * q.toInt := by
    rw [Int64.toInt_mul, Int32.toInt_toInt64]
    exact Int.bmod_eq_of_le (by omega) (by omega)
  have e2 : (a * q.toInt64 / 1000000).toInt = (a.toInt * q.toInt).tdiv 1000000 := by
    rw [Int64.toInt_div, e1]
    have : (1000000 : Int64).toInt = 1000000 := by decide
    rw [this]
    have h6 := Int.tdiv_nonneg hm (b := 1000000) (by omega)
    have h7 : (a.toInt * q.toInt).tdiv 1000000 ≤ a.toInt * q.toInt := Int.tdiv_le_self _ hm
    exact Int.bmod_eq_of_le (by omega) (by omega)
  have h6 := Int.tdiv_nonneg hm (b := 1000000) (by omega)
  have h7 : (a.toInt * q.toInt).tdiv 1000000 ≤ a.toInt * q.toInt := Int.tdiv_le_self _ hm
  have e3 : (a + b.toInt64).toInt = a.toInt + b.toInt := by
    rw [Int64.toInt_add, Int32.toInt_toInt64]
    exact Int.bmod_eq_of_le (by omega) (by omega)
  rw [Int64.toInt_add, e2, e3, Int.bmod_eq_of_le (by omega) (by omega)]
  omega
section X36
variable {D : va_G} {N0 : Nat} {d m : Nat} {h : XH} {Q : Outcome → XH → Prop}
theorem c_M_search_copy {t : Nat} (ht : t < 5) {v1 v2 v3 v9 : Int32} {l5 l6 l7 l8 : Option Value} : ∀ (T : SP) (s : Nat) (A : MS), s + T.length = t + 1 → RepW (A.2.1 26) T →
    (∀ r l10, (∀ j, j < s → r j = A.2.1 25 j) → RepR r s T → xV D N0 mM_search d 264 [some (.ref m), some (.int v1), some (.int v2), some (.int v3), some (.int (nI t)), l5, l6, l7, l8, some (.int v9), l10] [] (hm m (mR A r) h) Q) →
    xV D N0 mM_search d 234 [some (.ref m), some (.int v1), some (.int v2), some (.int v3), some (.int (nI t)), l5, l6, l7, l8, some (.int v9), some (.int (nI s))] [] (hm m A h) Q := by
  intro T
  induction T with
  | nil =>
    intro s A hs hW k
    obtain rfl : s = t + 1 := by simpa using hs
    repeat' refine xV.step rfl ?_
    refine xV.br rfl (fun h1 => ?_) (fun h1 => ?_)
    · have := k (A.2.1 25) (some (.int (nI (t + 1)))) (fun _ _ => rfl) True.intro
      rw [mR_self] at this
      exact this
    · rw [xn_lt (by omega) (by omega)] at h1
      omega
  | cons e T ih =>
    intro s A hs hW k
    have hs' : s + T.length = t := by have : (e :: T).length = T.length + 1 := rfl; omega
    obtain ⟨w1, w2, w3⟩ := hW
    repeat' refine xV.step rfl ?_
    refine xV.br rfl (fun h1 => ?_) (fun h1 => ?_)
    · rw [xn_lt (by omega) (by omega)] at h1
      omega
    repeat' first
      | refine xV.step rfl ?_
      | refine xV.mget rfl rfl ?_
    refine xV.mi' (n := 5) (j := T.length) rfl rfl rfl (by rw [xn_sub (by omega)]; congr 1; omega) (by omega) ?_
    rw [w1]
    refine xV.si (n := 5) (j := s) rfl rfl rfl rfl (by omega) ?_
    refine xV.step rfl ?_
    refine xV.step rfl ?_
    show xV D N0 mM_search d 234 [some (.ref m), some (.int v1), some (.int v2), some (.int v3), some (.int (nI t)), l5, l6, l7, l8, some (.int v9), some (.int (nI s + 1))] [] _ _
    rw [xn_succ]
    refine ih (s + 1) (mI A 25 s (nI e.1)) (by omega) w3 (fun r l10 h2 h3 => ?_)
    rw [mR_mI]
    refine k r l10 (fun j hj => ?_) ⟨?_, w2, h3⟩
    · rw [h2 j (by omega), mI_ne (by omega)]
    · rw [h2 s (by omega), mI_self]
theorem c_M_search_vis {t : Nat} (ht : t < 5) {A : MS} {b : Bool} {p v1 v2 v3 : Int32} {l5 l6 l7 : Option Value} (k : xV D N0 mM_search d 189 [some (.ref m), some (.int v1), some (.int v2), some (.int v3), some (.int (nI t)), l5, l6, l7, some (.int p), some (.int (xB (b && sfree (A.2.1 28) p (t + 1)))), some (.int (nI (t + 1)))] [] (hm m A h) Q) : ∀ n s, s + n = t + 1 →
    xV D N0 mM_search d 152 [some (.ref m), some (.int v1), some (.int v2), some (.int v3), some (.int (nI t)), l5, l6, l7, some (.int p), some (.int (xB (b && sfree (A.2.1 28) p s))), some (.int (nI s))] [] (hm m A h) Q := by
  intro n
  induction n with
  | zero =>
    intro s hs
    obtain rfl : s = t + 1 := by omega
    repeat' refine xV.step rfl ?_
    refine xV.br rfl (fun h1 => k) (fun h1 => ?_)
    rw [xn_lt (by omega) (by omega)] at h1
    omega
  | succ n ih =>
    intro s hs
    have ih := ih (s + 1) (by omega)
    rw [← xn_succ] at ih
    repeat' refine xV.step rfl ?_
    refine xV.br rfl (fun h1 => ?_) (fun h1 => ?_)
    · rw [xn_lt (by omega) (by omega)] at h1
      omega
    have bk : ∀ x : Int32, x = xB (b && sfree (A.2.1 28) p (s + 1)) → xV D N0 mM_search d 181 [some (.ref m), some (.int v1), some (.int v2), some (.int v3), some (.int (nI t)), l5, l6, l7, some (.int p), some (.int (xB (b && sfree (A.2.1 28) p s))), some (.int (nI s))] [.int x] (hm m A h) Q := fun x hx => by
      refine xV.step rfl ?_
      refine xV.step rfl ?_
      refine xV.step rfl ?_
      rw [hx]
      exact ih
    refine xV.step rfl ?_
    refine xV.br rfl (fun h2 => ?_) (fun h2 => ?_)
    · refine xV.step rfl ?_
      refine bk 0 ?_
      rw [sfree, ← Bool.and_assoc, xB_f h2]
      rfl
    repeat' first
      | refine xV.step rfl ?_
      | refine xV.mget rfl rfl ?_
    refine xV.mi (n := 6) (j := s) rfl rfl rfl (by omega) ?_
    refine xV.step rfl ?_
    refine xV.br rfl (fun h3 => ?_) (fun h3 => ?_)
    · refine xV.step rfl ?_
      refine bk 0 ?_
      rw [sfree, ← Bool.and_assoc, decide_eq_false (fun z => z h3), Bool.and_false]
      rfl
    · refine xV.step rfl ?_
      refine xV.step rfl ?_
      refine bk 1 ?_
      rw [sfree, ← Bool.and_assoc, xB_t h2, decide_eq_true h3]
      rfl
end X36
