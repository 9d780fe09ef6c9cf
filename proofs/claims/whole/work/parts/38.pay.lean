/- Part 38: the model: route, pay. -/
def samt (A : MS) (am : Int64) : SP → Int64
  | [] => am
  | e :: _ => sfee A e.2.1 e.2.2
def sgood (A : MS) (C : Nat) (to : Int32) (am : Int64) : SP → Prop
  | [] => True
  | e :: T => e.1 < C ∧ e.2.1 = spay A e.1 (shd to T) ∧ e.2.2 = samt A am T ∧ sgood A C to am T
theorem sloop_ind {f : Nat → SP → SP} {C : Nat} (P : SP → Prop) (hf : ∀ i B, i < C → P B → P (f i B)) : ∀ n i B, i + n ≤ C → P B → P (sloop f i n B)
  | 0, _, _, _, hB => hB
  | n + 1, i, B, hi, hB => sloop_ind P hf n (i + 1) (f i B) (by omega) (hf i B (by omega) hB)
theorem sgood_go {A : MS} {L : Nat → Nat} {C : Nat} {fr to : Int32} {am : Int64} : ∀ k a T B, sgood A C to am T → a = samt A am T → sgood A C to am B → sgood A C to am (sgo A L C fr to k a T B)
  | 0, _, _, _, _, _, hB => hB
  | k + 1, a, T, B, hT, ha, hB => by
    rw [sgo]
    refine sloop_ind (C := C) (sgood A C to am) (fun i B hi hB => ?_) C 0 B (by omega) hB
    unfold sone
    have hE : sgood A C to am ((i, spay A i (shd to T), a) :: T) := ⟨hi, rfl, ha, hT⟩
    split
    · split
      · split
        · exact hE
        · exact hB
      · exact sgood_go k _ _ _ hE rfl hB
    · exact hB
theorem sgood_res {A : MS} {L : Nat → Nat} {C : Nat} {fr to am : Int32} : sgood A C to am.toInt64 (sres A L C fr to am) := sgood_go 5 _ _ _ True.intro rfl True.intro
def rAns : SP → Int32
  | [] => -1
  | e :: _ => e.2.2.toInt32
def tRoute (f t a : Int32) : Int32 := if nd f = true ∧ nd t = true then (if ispr f t a = true then 0 else 2) else 1
def tPay (A : MS) (f t a dl : Int32) : Int32 := if nd f = true ∧ nd t = true then (if ispr f t a = true ∧ 0 ≤ dl ∧ dl ≤ 1000000000 then (if A.1 34 = 16 then 3 else 0) else 2) else 1
def xTe (t : Int32) (o1 : Outcome) (u1 : XH) (Q0 : Outcome → XH → Prop) : Outcome → XH → Prop := fun o u => (t ≠ 0 ∧ o = o1 ∧ u = u1) ∨ (t = 0 ∧ Q0 o u)
def pdl (A : MS) (dd : Int32) : SP → Int32
  | [] => dd
  | e :: T => pdl A dd T + A.2.1 4 e.2.1.toNatClampNeg
def pwA (P N : Nat) (dd : Int32) (A : MS) : SP → MS
  | [] => A
  | e :: T => mI (mI (mI (mI (pwA P N dd A T) 37 (5 * P + (N - 1 - T.length)) (nI e.1)) 38 (5 * P + (N - 1 - T.length)) e.2.2.toInt32) 39 (5 * P + (N - 1 - T.length)) (pdl A dd T)) 41 (5 * P + (N - 1 - T.length)) e.2.1
theorem mI_oth {A : MS} {k k' i : Nat} {x : Int32} (h : k' ≠ k) : (mI A k i x).2.1 k' = A.2.1 k' := by simp [mI, h]
theorem pwA_i {P N : Nat} {dd : Int32} {A : MS} {k : Nat} (hk : k < 37) : ∀ T, (pwA P N dd A T).2.1 k = A.2.1 k
  | [] => rfl
  | e :: T => by rw [pwA, mI_oth (by omega), mI_oth (by omega), mI_oth (by omega), mI_oth (by omega), pwA_i hk T]
def mpay (A : MS) (P : Nat) (to : Int32) (lo : Int64) (dd : Int32) (S : SP) : MS := pwA P S.length dd (mJ (mI (mI (mF A 34 (nI P + 1)) 34 P (nI S.length)) 35 P to) 36 P lo) S
theorem RepR.at {r : Nat → Int32} {e : Nat × Int32 × Int64} {T : SP} : ∀ {X : SP} {j : Nat}, RepR r j (X ++ e :: T) → r (j + X.length) = nI e.1
  | [], _, h => h.1
  | f :: X, j, h => by
    have := RepR.at (X := X) (j := j + 1) h.2.2
    rw [show j + (f :: X).length = j + 1 + X.length by simp; omega]
    exact this
theorem sgood.suf {A : MS} {C : Nat} {to : Int32} {am : Int64} {T : SP} : ∀ {X : SP}, sgood A C to am (X ++ T) → sgood A C to am T
  | [], h => h
  | _ :: X, h => sgood.suf (X := X) h.2.2.2
theorem xi_sub (x : Int32) : x + 1 + (-1) = x := by
  rw [Int32.add_assoc]
  exact Int32.add_zero x
section X38
variable {D : va_G} {N0 : Nat} {M : XM} {d pc m : Nat} {lv : XL} {st : List Value} {h : XH} {A : MS} {L : Nat → Nat} {C : Nat} {fr to am : Int32} {Q : Outcome → XH → Prop}
theorem xV.cE {M2 : XM} {idx nx n m : Nat} {A : MS} {S : SP} {as rest : List Value} {h0 : XH} (hq : xon M pc = some (.invokevirtual idx, nx)) (hst : xsp (n + 1) st [] = some (.ref m :: as, rest)) (hw : xcv "ChannelNetModel" M M2 idx n) (hok2 : xOK M2 = true) (hsz : (lg_sl (.ref m :: as)).length ≤ M2.2.2.1) (hcat : (rest.map fun v => v.category).sum + (M2.2.2.1 + 11) ≤ 64)
    (hcon : xV D N0 M2 d 0 (xargs M2.2.2.1 (.ref m :: as)) [] (hm m A h0) (sEnd m h0 A S (fun _ => .returned none))) (k : ∀ A2, sSame A A2 → RepB A2.1 (A2.2.1 25) S → xV D N0 M (d + 1) nx lv rest (hm m A2 h0) Q) : xV D N0 M (d + 1) pc lv st (hm m A h0) Q :=
  xV.callV (q := ("ChannelNetModel", xTM, 48)) hq hst (hm_get0 m A h0) rfl hw hok2 hsz hcat hcon (fun w u hz => by obtain ⟨A2, c1, c2, c3, rfl⟩ := hz; cases c3; exact k A2 c1 c2) (fun a u hz => by obtain ⟨_, _, _, c3, _⟩ := hz; cases c3)
theorem c_M_route (hA : sOK A L C) :
    xV D N0 mM_route (d + 4) 0 (xargs 4 [.ref m, .int fr, .int to, .int am]) [] (hm m A h) (xTe (tRoute fr to am) (.returned (some (.int 0))) (hm m (mF A 0 (tRoute fr to am)) h) (sEnd m h (mF A 0 0) (sres (mF A 0 0) L C fr to am) (fun _ => .returned (some (.int (rAns (sres (mF A 0 0) L C fr to am))))))) := by
  have tl : ∀ t : Int32, t = 1 ∨ t = 2 → tRoute fr to am = t → xV D N0 mM_route (d + 4) 34 (xargs 4 [.ref m, .int fr, .int to, .int am]) [.int t, .ref m] (hm m A h) (xTe (tRoute fr to am) (.returned (some (.int 0))) (hm m (mF A 0 (tRoute fr to am)) h) (sEnd m h (mF A 0 0) (sres (mF A 0 0) L C fr to am) (fun _ => .returned (some (.int (rAns (sres (mF A 0 0) L C fr to am))))))) := by
    intro t ht hT
    have h0 : t ≠ 0 ∧ ¬ t ≤ 0 := by rcases ht with rfl | rfl <;> exact ⟨by decide, by decide⟩
    refine xV.mput rfl rfl rfl (Nat.le_of_ble_eq_true rfl) ?_
    repeat' refine xV.step rfl ?_
    refine xV.mget (v := .int t) rfl rfl ?_
    refine xV.br rfl (fun h2 => absurd h2 h0.2) (fun h2 => ?_)
    repeat' refine xV.step rfl ?_
    exact xV.iret rfl rfl rfl (Or.inl ⟨by rw [hT]; exact h0.1, rfl, by rw [hT]⟩)
  have no : ¬ (nd fr = true ∧ nd to = true) → xV D N0 mM_route (d + 4) 15 (xargs 4 [.ref m, .int fr, .int to, .int am]) [.ref m] (hm m A h) (xTe (tRoute fr to am) (.returned (some (.int 0))) (hm m (mF A 0 (tRoute fr to am)) h) (sEnd m h (mF A 0 0) (sres (mF A 0 0) L C fr to am) (fun _ => .returned (some (.int (rAns (sres (mF A 0 0) L C fr to am))))))) := fun hz => by
    refine xV.step rfl ?_
    refine xV.step rfl ?_
    exact tl 1 (Or.inl rfl) (by unfold tRoute; rw [if_neg hz])
  repeat' refine xV.step rfl ?_
  refine xV.cS rfl rfl g_mM_route_162 mM_isNode_ok (Nat.le_of_ble_eq_true rfl) (Nat.le_of_ble_eq_true rfl) c_M_isNode' ?_
  refine xV.br rfl (fun h1 => no (fun z => by rw [xB_f h1] at z; cases z.1)) (fun h1 => ?_)
  repeat' refine xV.step rfl ?_
  refine xV.cS rfl rfl g_mM_route_162 mM_isNode_ok (Nat.le_of_ble_eq_true rfl) (Nat.le_of_ble_eq_true rfl) c_M_isNode' ?_
  refine xV.br rfl (fun h2 => no (fun z => by rw [xB_f h2] at z; cases z.2)) (fun h2 => ?_)
  repeat' refine xV.step rfl ?_
  refine xV.cM rfl rfl g_mM_route_249 mM_isProper_ok (Nat.le_of_ble_eq_true rfl) (Nat.le_of_ble_eq_true rfl) c_M_isProper ?_
  refine xV.br rfl (fun h3 => ?_) (fun h3 => ?_)
  · refine xV.step rfl ?_
    exact tl 2 (Or.inr rfl) (by unfold tRoute; rw [if_pos ⟨xB_t h1, xB_t h2⟩, if_neg (by rw [xB_f h3]; decide)])
  have hT : tRoute fr to am = 0 := by unfold tRoute; rw [if_pos ⟨xB_t h1, xB_t h2⟩, if_pos (xB_t h3)]
  have ham : 0 ≤ am.toInt := by
    have hz := (of_decide_eq_true (xB_t h3)).2.1
    rw [Int32.le_iff_toInt_le] at hz
    have : (1 : Int32).toInt = 1 := rfl
    omega
  refine xV.step rfl ?_
  refine xV.step rfl ?_
  refine xV.mput rfl rfl rfl (Nat.le_of_ble_eq_true rfl) ?_
  repeat' refine xV.step rfl ?_
  refine xV.mget (v := .int 0) rfl rfl ?_
  refine xV.br rfl (fun h4 => ?_) (fun h4 => absurd (by decide) h4)
  repeat' refine xV.step rfl ?_
  refine xV.cE rfl rfl g_mM_route_252 mM_search_ok (Nat.le_of_ble_eq_true rfl) (Nat.le_of_ble_eq_true rfl) (c_M_search (A := mF A 0 0) hA ham) (fun A2 c1 c2 => ?_)
  refine xV.step rfl ?_
  refine xV.mget rfl rfl ?_
  rw [c2.1]
  generalize hS : sres (mF A 0 0) L C fr to am = S at *
  cases S with
  | nil =>
    refine xV.br rfl (fun h5 => ?_) (fun h5 => absurd rfl h5)
    repeat' refine xV.step rfl ?_
    exact xV.iret rfl rfl rfl (Or.inr ⟨hT, A2, c1, c2, rfl, rfl⟩)
  | cons e S =>
    have hl := c2.2.1
    have hl2 : (e :: S).length = S.length + 1 := rfl
    rw [hl2] at hl
    refine xV.br rfl (fun h5 => ?_) (fun h5 => ?_)
    · rw [hl2, show (0 : Int32) = nI 0 from rfl, xn_inj (by omega) (by omega)] at h5
      omega
    repeat' first
      | refine xV.step rfl ?_
      | refine xV.mget rfl rfl ?_
    refine xV.iret rfl rfl rfl (Or.inr ⟨hT, A2, c1, c2, ?_, rfl⟩)
    have := c2.2.2.2 e S rfl
    rw [rAns, ← this, Int32.toInt32_toInt64]
theorem c_M_pay_loop (hA : sOK A L C) {P N : Nat} (hP : P < 16) (hN : N ≤ 5) {S : SP} {lo : Int64} {v1 v3 dl : Int32} (hS : S.length = N) (hg : sgood A C to am.toInt64 S) {A0 : MS} (hs : ∀ k, k < 34 → k ≠ 25 → k ≠ 26 → k ≠ 28 → A0.2.1 k = A.2.1 k) (hr : RepR (A0.2.1 25) 0 S) : ∀ (R T : SP) (x : Int32) (l13 l14 : Option Value), R.reverse ++ T = S → x + 1 = nI R.length →
    xV D N0 mM_pay (d + 4) 150 [some (.ref m), some (.int v1), some (.int to), some (.int v3), some (.long lo), none, some (.int dl), some (.int (nI P)), some (.long (samt A am.toInt64 T)), none, some (.int (pdl A0 dl T)), some (.int (shd to T)), some (.int x), l13, l14] [] (hm m (pwA P N dl A0 T) h) (xEq (.returned (some (.int (nI P)))) (hm m (pwA P N dl A0 S) h)) := by
  intro R
  induction R with
  | nil =>
    intro T x l13 l14 hRT hx
    obtain rfl : T = S := hRT
    have hx' : x = -1 := by
      have : x + 1 + (-1) = nI 0 + (-1) := by rw [hx]; rfl
      rw [xi_sub] at this
      exact this
    subst hx'
    refine xV.step rfl ?_
    refine xV.br rfl (fun _ => ?_) (fun h1 => absurd (by decide) h1)
    refine xV.step rfl ?_
    exact xV.iret rfl rfl rfl ⟨rfl, rfl⟩
  | cons e R ih =>
    intro T x l13 l14 hRT hx
    have hRT' : R.reverse ++ (e :: T) = S := by rw [← hRT]; simp
    have hlen : R.length + T.length + 1 = N := by rw [← hS, ← hRT']; simp; omega
    have hx' : x = nI R.length := by
      have h1 : x + 1 + (-1) = nI (R.length + 1) + (-1) := by rw [hx]; rfl
      rw [xi_sub, xn_dec] at h1
      exact h1
    subst hx'
    have hg1 : sgood A C to am.toInt64 (e :: T) := by rw [← hRT'] at hg; exact hg.suf
    obtain ⟨g1, g2, g3, g4⟩ := hg1
    have hC2 := hA.2.1
    obtain ⟨q, hq, hpq⟩ := spay_nat hA g1 (shd to T)
    have hr1 : (pwA P N dl A0 T).2.1 25 R.length = nI e.1 := by
      rw [pwA_i (by omega)]
      rw [← hRT'] at hr
      have := hr.at
      simpa using this
    have hsd : ∀ y, mside (pwA P N dl A0 T) e.1 y = mside A e.1 y := fun y => by
      unfold mside
      rw [pwA_i (by omega), pwA_i (by omega), hs 6 (by omega) (by omega) (by omega) (by omega), hs 7 (by omega) (by omega) (by omega) (by omega)]
    have hno : ∀ y, mnode (pwA P N dl A0 T) e.1 y = mnode A e.1 y := fun y => by
      unfold mnode
      rw [pwA_i (by omega), pwA_i (by omega), hs 6 (by omega) (by omega) (by omega) (by omega), hs 7 (by omega) (by omega) (by omega) (by omega)]
    have hix : (5 : Int32) * nI P + nI R.length = nI (5 * P + (N - 1 - T.length)) := by
      rw [show (5 : Int32) = nI 5 from rfl, xn_mul, xn_add]
      congr 1
      omega
    refine xV.step rfl ?_
    refine xV.br rfl (fun h1 => absurd h1 (xn_nonneg (by omega))) (fun h1 => ?_)
    repeat' first
      | refine xV.step rfl ?_
      | refine xV.mget rfl rfl ?_
    rw [hix]
    refine xV.mi (n := 5) (j := R.length) rfl rfl rfl (by omega) ?_
    rw [hr1]
    refine xV.step rfl ?_
    show xV D N0 mM_pay (d + 4) 173 [some (.ref m), some (.int v1), some (.int to), some (.int v3), some (.long lo), none, some (.int dl), some (.int (nI P)), some (.long (samt A am.toInt64 T)), none, some (.int (pdl A0 dl T)), some (.int (shd to T)), some (.int (nI R.length)), some (.int (nI (5 * P + (N - 1 - T.length)))), some (.int (nI e.1))] [] _ _
    repeat' refine xV.step rfl ?_
    refine xV.cM rfl rfl g_mM_pay_199 mM_sideOf_ok (Nat.le_of_ble_eq_true rfl) (Nat.le_of_ble_eq_true rfl) (c_M_sideOf (by omega)) ?_
    rw [hsd]
    repeat' refine xV.step rfl ?_
    refine xV.cM rfl rfl g_mM_pay_192 mM_nodeOf_ok (Nat.le_of_ble_eq_true rfl) (Nat.le_of_ble_eq_true rfl) (c_M_nodeOf (by omega)) ?_
    rw [hno, show mnode A e.1 (1 - mside A e.1 (shd to T)) = e.2.1 from g2.symm]
    refine xV.step rfl ?_
    show xV D N0 mM_pay (d + 4) 191 [some (.ref m), some (.int v1), some (.int to), some (.int v3), some (.long lo), none, some (.int dl), some (.int (nI P)), some (.long (samt A am.toInt64 T)), none, some (.int (pdl A0 dl T)), some (.int e.2.1), some (.int (nI R.length)), some (.int (nI (5 * P + (N - 1 - T.length)))), some (.int (nI e.1))] [] _ _
    rw [← g3]
    rw [← g2] at hpq
    have e2 : ∀ k, k < 25 → (pwA P N dl A0 T).2.1 k = A.2.1 k := fun k hk => by rw [pwA_i (by omega), hs k (by omega) (by omega) (by omega) (by omega)]
    repeat' first
      | refine xV.step rfl ?_
      | refine xV.mget rfl rfl ?_
      | refine xV.si (n := 80) (j := 5 * P + (N - 1 - T.length)) rfl rfl rfl rfl (by omega) ?_
      | refine xV.mi' (n := 6) (j := q) rfl rfl rfl hpq hq ?_
    refine xV.ldiv rfl (by decide) ?_
    refine xV.step rfl ?_
    show xV D N0 mM_pay (d + 4) 255 [some (.ref m), some (.int v1), some (.int to), some (.int v3), some (.long lo), none, some (.int dl), some (.int (nI P)), some (.long e.2.2), none, some (.int (pdl A0 dl T)), some (.int e.2.1), some (.int (nI R.length)), some (.int (nI (5 * P + (N - 1 - T.length)))), some (.int (nI e.1))] [.long (e.2.2 + ((pwA P N dl A0 (e :: T)).2.1 2 q).toInt64 + e.2.2 * ((pwA P N dl A0 (e :: T)).2.1 3 q).toInt64 / 1000000)] (hm m (pwA P N dl A0 (e :: T)) h) _
    have hfee : e.2.2 + ((pwA P N dl A0 (e :: T)).2.1 2 q).toInt64 + e.2.2 * ((pwA P N dl A0 (e :: T)).2.1 3 q).toInt64 / 1000000 = samt A am.toInt64 (e :: T) := by
      show _ = sfee A e.2.1 e.2.2
      unfold sfee
      rw [hpq, xn_clamp (by omega), pwA_i (by omega), pwA_i (by omega), hs 2 (by omega) (by omega) (by omega) (by omega), hs 3 (by omega) (by omega) (by omega) (by omega)]
    rw [hfee]
    refine xV.step rfl ?_
    show xV D N0 mM_pay (d + 4) 257 [some (.ref m), some (.int v1), some (.int to), some (.int v3), some (.long lo), none, some (.int dl), some (.int (nI P)), some (.long (samt A am.toInt64 (e :: T))), none, some (.int (pdl A0 dl T)), some (.int e.2.1), some (.int (nI R.length)), some (.int (nI (5 * P + (N - 1 - T.length)))), some (.int (nI e.1))] [] (hm m (pwA P N dl A0 (e :: T)) h) _
    repeat' first
      | refine xV.step rfl ?_
      | refine xV.mget rfl rfl ?_
    refine xV.mi' (n := 6) (j := q) rfl rfl rfl hpq hq ?_
    refine xV.step rfl ?_
    refine xV.step rfl ?_
    refine xV.step rfl ?_
    refine xV.step rfl ?_
    have hdl : pdl A0 dl T + (pwA P N dl A0 (e :: T)).2.1 4 q = pdl A0 dl (e :: T) := by
      rw [pdl, hpq, xn_clamp (by omega), pwA_i (by omega)]
    show xV D N0 mM_pay (d + 4) 150 [some (.ref m), some (.int v1), some (.int to), some (.int v3), some (.long lo), none, some (.int dl), some (.int (nI P)), some (.long (samt A am.toInt64 (e :: T))), none, some (.int (pdl A0 dl T + (pwA P N dl A0 (e :: T)).2.1 4 q)), some (.int e.2.1), some (.int (nI R.length + (-1))), some (.int (nI (5 * P + (N - 1 - T.length)))), some (.int (nI e.1))] [] (hm m (pwA P N dl A0 (e :: T)) h) _
    rw [hdl]
    refine ih (e :: T) _ _ _ hRT' ?_
    rw [Int32.add_assoc]
    exact Int32.add_zero _
end X38
