/- Part 35: the search: its data; isProper, isBetter. -/
abbrev SP : Type := List (Nat × Int32 × Int64)
def RepW (w : Nat → Int32) : SP → Prop
  | [] => True
  | e :: T => w T.length = nI e.1 ∧ e.1 < 8 ∧ RepW w T
def RepR (r : Nat → Int32) : Nat → SP → Prop
  | _, [] => True
  | j, e :: B => r j = nI e.1 ∧ e.1 < 8 ∧ RepR r (j + 1) B
def RepT (w : Nat → Int32) (b : Nat → Int64) (v : Nat → Int32) (to : Int32) : SP → Prop
  | [] => v 0 = to
  | e :: T => w T.length = nI e.1 ∧ e.1 < 8 ∧ b T.length = e.2.2 ∧ v (T.length + 1) = e.2.1 ∧ RepT w b v to T
def RepB (F r : Nat → Int32) (B : SP) : Prop := F 28 = nI B.length ∧ B.length ≤ 5 ∧ RepR r 0 B ∧ ∀ e B', B = e :: B' → (F 30).toInt64 = e.2.2
def slex : SP → SP → Bool
  | e :: T, f :: B => if e.1 = f.1 then slex T B else decide (e.1 < f.1)
  | _, _ => false
def sbet (a : Int64) (T : SP) : SP → Bool
  | [] => true
  | f :: B => if a = f.2.2 then (if T.length = B.length + 1 then slex T (f :: B) else decide (T.length < B.length + 1)) else decide (a < f.2.2)
theorem RepT.w {w : Nat → Int32} {b : Nat → Int64} {v : Nat → Int32} {to : Int32} : ∀ {T : SP}, RepT w b v to T → RepW w T
  | [], _ => True.intro
  | _ :: _, h => ⟨h.1, h.2.1, h.2.2.2.2.w⟩
theorem xn_sub {a b : Nat} (h : b ≤ a) : nI a - nI b = nI (a - b) := by
  have e := xn_add (a - b) b
  rw [show a - b + b = a by omega] at e
  rw [← e]
  generalize nI (a - b) = x
  generalize nI b = y
  rw [Int32.add_sub_cancel]
section X35
variable {D : va_G} {N0 : Nat} {d m : Nat} {h : XH} {A : MS}
def ispr (f t a : Int32) : Bool := decide (f ≠ t ∧ 1 ≤ a ∧ a ≤ 10000000)
theorem c_M_isProper {f t a : Int32} : xV D N0 mM_isProper (d + 1) 0 (xargs 4 [.ref m, .int f, .int t, .int a]) [] h (xEq (.returned (some (.int (xB (ispr f t a))))) h) := by
  unfold ispr
  repeat' refine xV.step rfl ?_
  refine xV.br rfl (fun h1 => ?_) (fun h1 => ?_)
  · repeat' refine xV.step rfl ?_
    exact xV.iret rfl rfl rfl ⟨xB0 (fun z => z.1 h1), rfl⟩
  repeat' refine xV.step rfl ?_
  refine xV.cS rfl rfl g_mM_isProper_140 mM_isIn_ok (Nat.le_of_ble_eq_true rfl) (Nat.le_of_ble_eq_true rfl) c_M_isIn ?_
  refine xV.br rfl (fun h2 => ?_) (fun h2 => ?_)
  · repeat' refine xV.step rfl ?_
    exact xV.iret rfl rfl rfl ⟨xB0 (fun z => of_decide_eq_false (xB_f h2) z.2), rfl⟩
  · repeat' refine xV.step rfl ?_
    exact xV.iret rfl rfl rfl ⟨xB1 ⟨h1, of_decide_eq_true (xB_t h2)⟩, rfl⟩
theorem c_M_isBetter_loop {N : Nat} (hN : N ≤ 5) {a : Int64} : ∀ (T B : SP) (j : Nat), j + T.length = N → B.length = T.length → RepW (A.2.1 26) T → RepR (A.2.1 25) j B →
    xV D N0 mM_isBetter d 78 [some (.ref m), some (.int (nI N)), some (.long a), none, some (.int (nI j))] [] (hm m A h) (xEq (.returned (some (.int (xB (slex T B))))) (hm m A h)) := by
  intro T
  induction T with
  | nil =>
    intro B j hj hB hW hR
    have hj' : j = N := by simpa using hj
    subst hj'
    repeat' refine xV.step rfl ?_
    refine xV.br rfl (fun h1 => ?_) (fun h1 => ?_)
    · repeat' refine xV.step rfl ?_
      exact xV.iret rfl rfl rfl ⟨rfl, rfl⟩
    · rw [xn_le (by omega) (by omega)] at h1
      omega
  | cons e T ih =>
    intro B j hj hB hW hR
    cases B with
    | nil => cases hB
    | cons f B =>
    have hj' : j + T.length + 1 = N := by simpa [Nat.add_assoc] using hj
    obtain ⟨w1, w2, w3⟩ := hW
    obtain ⟨r1, r2, r3⟩ := hR
    have ix : nI N - 1 - nI j = nI T.length := by
      rw [show (1 : Int32) = nI 1 from rfl, xn_sub (by omega), xn_sub (by omega)]
      congr 1
      omega
    repeat' refine xV.step rfl ?_
    refine xV.br rfl (fun h1 => ?_) (fun h1 => ?_)
    · rw [xn_le (by omega) (by omega)] at h1
      omega
    repeat' first
      | refine xV.step rfl ?_
      | refine xV.mget rfl rfl ?_
    refine xV.mi' (n := 5) (j := T.length) rfl rfl rfl ix (by omega) ?_
    repeat' first
      | refine xV.step rfl ?_
      | refine xV.mget rfl rfl ?_
    refine xV.mi (n := 5) (j := j) rfl rfl rfl (by omega) ?_
    rw [w1, r1]
    refine xV.br rfl (fun h2 => ?_) (fun h2 => ?_)
    · rw [xn_inj (by omega) (by omega)] at h2
      refine xV.step rfl ?_
      refine xV.step rfl ?_
      show xV D N0 mM_isBetter d 78 [some (.ref m), some (.int (nI N)), some (.long a), none, some (.int (nI j + 1))] [] _ _
      rw [xn_succ, slex, if_pos h2]
      exact ih B (j + 1) (by omega) (by simpa using hB) w3 r3
    · rw [xn_inj (by omega) (by omega)] at h2
      rw [slex, if_neg h2]
      repeat' first
        | refine xV.step rfl ?_
        | refine xV.mget rfl rfl ?_
      refine xV.mi' (n := 5) (j := T.length) rfl rfl rfl ix (by omega) ?_
      repeat' first
        | refine xV.step rfl ?_
        | refine xV.mget rfl rfl ?_
      refine xV.mi (n := 5) (j := j) rfl rfl rfl (by omega) ?_
      rw [w1, r1]
      refine xV.br rfl (fun h3 => ?_) (fun h3 => ?_)
      · rw [xn_le (by omega) (by omega)] at h3
        repeat' refine xV.step rfl ?_
        exact xV.iret rfl rfl rfl ⟨xB0 (by omega), rfl⟩
      · rw [xn_le (by omega) (by omega)] at h3
        repeat' refine xV.step rfl ?_
        exact xV.iret rfl rfl rfl ⟨xB1 (by omega), rfl⟩
theorem c_M_isBetter {e : Nat × Int32 × Int64} {T B : SP} (hT : T.length + 1 ≤ 5) (ha : A.2.2 27 T.length = e.2.2) (hW : RepW (A.2.1 26) (e :: T)) (hB : RepB A.1 (A.2.1 25) B) :
    xV D N0 mM_isBetter d 0 (xargs 5 [.ref m, .int (nI (T.length + 1))]) [] (hm m A h) (xEq (.returned (some (.int (xB (sbet e.2.2 (e :: T) B))))) (hm m A h)) := by
  obtain ⟨b1, b2, b3, b4⟩ := hB
  have ix : nI (T.length + 1) - 1 = nI T.length := by
    rw [show (1 : Int32) = nI 1 from rfl, xn_sub (by omega)]
    rfl
  repeat' first
    | refine xV.step rfl ?_
    | refine xV.mget rfl rfl ?_
    | refine xV.mj' (n := 6) (j := T.length) rfl rfl rfl ix (by omega) ?_
  rw [ha, b1]
  cases B with
  | nil =>
    refine xV.br rfl (fun h1 => ?_) (fun h1 => absurd rfl h1)
    repeat' first
      | refine xV.step rfl ?_
      | refine xV.mget rfl rfl ?_
    rw [b1]
    refine xV.br rfl (fun h1 => ?_) (fun h1 => absurd rfl h1)
    repeat' refine xV.step rfl ?_
    exact xV.iret rfl rfl rfl ⟨rfl, rfl⟩
  | cons f B =>
    have b5 := b4 f B rfl
    have hl : (f :: B).length = B.length + 1 := rfl
    rw [hl] at b1 b2
    rw [hl]
    have hz : nI (B.length + 1) ≠ 0 := fun z => by
      rw [show (0 : Int32) = nI 0 from rfl, xn_inj (by omega) (by omega)] at z
      omega
    have oth : ¬ (e.2.2 = f.2.2 ∧ T.length + 1 = B.length + 1) → xV D N0 mM_isBetter d 34 [some (.ref m), some (.int (nI (T.length + 1))), some (.long e.2.2), none, none] [] (hm m A h) (xEq (.returned (some (.int (xB (sbet e.2.2 (e :: T) (f :: B)))))) (hm m A h)) := fun hno => by
      repeat' first
        | refine xV.step rfl ?_
        | refine xV.mget rfl rfl ?_
      rw [b1]
      refine xV.br rfl (fun h1 => absurd h1 hz) (fun h1 => ?_)
      repeat' first
        | refine xV.step rfl ?_
        | refine xV.mget rfl rfl ?_
      rw [b5]
      refine xV.br rfl (fun h2 => ?_) (fun h2 => ?_)
      · rw [lg_cmp_lt0] at h2
        repeat' refine xV.step rfl ?_
        refine xV.iret rfl rfl rfl ⟨?_, rfl⟩
        have hne : ¬ e.2.2 = f.2.2 := fun z => by rw [z, Int64.lt_iff_toInt_lt] at h2; omega
        rw [sbet, if_neg hne]
        exact xB1 h2
      · rw [lg_cmp_lt0] at h2
        repeat' first
          | refine xV.step rfl ?_
          | refine xV.mget rfl rfl ?_
        rw [b5]
        refine xV.br rfl (fun h3 => ?_) (fun h3 => ?_)
        · rw [lg_cmp_eq0] at h3
          have hne : ¬ (T.length + 1 = B.length + 1) := fun z => hno ⟨h3, z⟩
          repeat' first
            | refine xV.step rfl ?_
            | refine xV.mget rfl rfl ?_
          rw [b1]
          rw [sbet, if_pos h3, show (e :: T).length = T.length + 1 from rfl, if_neg hne]
          refine xV.br rfl (fun h4 => ?_) (fun h4 => ?_)
          · rw [xn_le (by omega) (by omega)] at h4
            repeat' refine xV.step rfl ?_
            exact xV.iret rfl rfl rfl ⟨xB0 (by omega), rfl⟩
          · rw [xn_le (by omega) (by omega)] at h4
            repeat' refine xV.step rfl ?_
            exact xV.iret rfl rfl rfl ⟨xB1 (by omega), rfl⟩
        · rw [lg_cmp_eq0] at h3
          repeat' refine xV.step rfl ?_
          refine xV.iret rfl rfl rfl ⟨?_, rfl⟩
          rw [sbet, if_neg h3]
          exact xB0 h2
    refine xV.br rfl (fun h1 => absurd h1 hz) (fun h1 => ?_)
    repeat' first
      | refine xV.step rfl ?_
      | refine xV.mget rfl rfl ?_
    rw [b5]
    refine xV.br rfl (fun h2 => ?_) (fun h2 => ?_)
    case refine_2 =>
      rw [lg_cmp_eq0] at h2
      exact oth (fun z => h2 z.1)
    rw [lg_cmp_eq0] at h2
    repeat' first
      | refine xV.step rfl ?_
      | refine xV.mget rfl rfl ?_
    rw [b1]
    refine xV.br rfl (fun h3 => ?_) (fun h3 => ?_)
    case refine_2 =>
      rw [xn_inj (by omega) (by omega)] at h3
      exact oth (fun z => h3 z.2)
    rw [xn_inj (by omega) (by omega)] at h3
    refine xV.step rfl ?_
    refine xV.step rfl ?_
    rw [sbet, if_pos h2, show (e :: T).length = T.length + 1 from rfl, if_pos h3]
    exact c_M_isBetter_loop hT (e :: T) (f :: B) 0 (by simp) (by simp; omega) hW b3
end X35
