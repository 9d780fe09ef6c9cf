/- Part 29: the model: keep, settle. -/
section X29
variable {D : va_G} {N0 : Nat} {d m : Nat} {h : XH} {A : MS}
theorem mkeep_lat {j l q K : Nat} {i : Nat} : (mkeep A j l q K).2.1 9 i = upd (A.2.1 9) j (nI (l + 1)) i := by
  unfold mkeep mlearn
  cases mfind ((mkept A j l q).2.2 23) (A.2.2 16 (64 * j + q)) K <;> rfl
theorem mlearn_lat {K : Nat} {k : Int64} {w : Int32} {i : Nat} : (mlearn A K k w).2.1 9 i = A.2.1 9 i := by
  unfold mlearn
  cases mfind (A.2.2 23) k K <;> rfl
theorem mkeep_has {j l q K : Nat} : mhas (mkeep A j l q K) (mK A K (A.2.2 16 (64 * j + q))) (A.2.2 16 (64 * j + q)) = true := by
  unfold mhas
  have := mfind_learn (A := mkept A j l q) (K := K) (k := A.2.2 16 (64 * j + q)) (w := (1 : Int32) <<< (mnode A j (A.2.1 14 (64 * j + q)) &&& 31))
  rw [show mfind ((mkeep A j l q K).2.2 23) (A.2.2 16 (64 * j + q)) (mK A K (A.2.2 16 (64 * j + q))) = mfind ((mlearn (mkept A j l q) K (A.2.2 16 (64 * j + q)) ((1 : Int32) <<< (mnode A j (A.2.1 14 (64 * j + q)) &&& 31))).2.2 23) (A.2.2 16 (64 * j + q)) (mK (mkept A j l q) K (A.2.2 16 (64 * j + q))) from rfl, this]
  rfl
theorem mkeep_K {j l q K : Nat} (hK : A.1 25 = nI K) : (mkeep A j l q K).1 25 = nI (mK A K (A.2.2 16 (64 * j + q))) := mlearn_K (A := mkept A j l q) hK
theorem mkeep_pay {j l q K i : Nat} : (mkeep A j l q K).2.1 14 i = A.2.1 14 i := mlearn_pay (A := mkept A j l q)
theorem mkeep_node {j l q K : Nat} {i : Nat} {x : Int32} : mnode (mkeep A j l q K) i x = mnode A i x := mlearn_node (A := mkept A j l q)
theorem c_M_keep {j l q K : Nat} {c k : Int32} {s : Int64} (hK : A.1 25 = nI K) (hK2 : K ≤ 24) (hc : isc A c = true → c = nI j ∧ j < 8 ∧ A.2.1 9 j = nI l ∧ l < 64) (hq : mbit (mnow A j l) k = true → k = nI q ∧ q < 64) :
    xV D N0 mM_keep (d + 4) 0 (xargs 9 [.ref m, .int c, .int k, .long s]) [] (hm m A h) (xTw (tKeep A c k s j l q K) (.returned (some (.int 0))) (hm m (mF A 0 (tKeep A c k s j l q K)) h) (.returned (some (.int (nI (l + 1))))) (hm m (mkeep2 A j l q K s) h)) := by
  have tl : ∀ (t : Int32) (LV : XL), xnth LV 0 = some (.ref m) → t = 1 ∨ t = 2 ∨ t = 3 → tKeep A c k s j l q K = t → xV D N0 mM_keep (d + 4) 122 LV [.int t, .ref m] (hm m A h) (xTw (tKeep A c k s j l q K) (.returned (some (.int 0))) (hm m (mF A 0 (tKeep A c k s j l q K)) h) (.returned (some (.int (nI (l + 1))))) (hm m (mkeep2 A j l q K s) h)) := by
    intro t LV hLV ht hT
    have h0 : t ≠ 0 ∧ ¬ t ≤ 0 := by rcases ht with rfl | rfl | rfl <;> exact ⟨by decide, by decide⟩
    refine xV.mput rfl rfl rfl (Nat.le_of_ble_eq_true rfl) ?_
    refine xV.ald0 rfl hLV ?_
    refine xV.mget (v := .int t) rfl rfl ?_
    refine xV.br rfl (fun h2 => absurd h2 h0.2) (fun h2 => ?_)
    repeat' refine xV.step rfl ?_
    exact xV.iret rfl rfl rfl (Or.inl ⟨by rw [hT]; exact h0.1, rfl, by rw [hT]⟩)
  have no : ¬ (isc A c = true ∧ mbit (mnow A j l) k = true) → xV D N0 mM_keep (d + 4) 30 [some (.ref m), some (.int c), some (.int k), some (.long s), none, some (.long (lk s)), none, none, none] [] (hm m A h) (xTw (tKeep A c k s j l q K) (.returned (some (.int 0))) (hm m (mF A 0 (tKeep A c k s j l q K)) h) (.returned (some (.int (nI (l + 1))))) (hm m (mkeep2 A j l q K s) h)) := fun hz => by
    refine xV.step rfl ?_
    refine xV.step rfl ?_
    show xV D N0 mM_keep (d + 4) 33 [some (.ref m), some (.int c), some (.int k), some (.long s), none, some (.long (lk s)), none, some (.int 0), none] _ _ _
    refine xV.step rfl ?_
    refine xV.br rfl (fun h2 => ?_) (fun h2 => absurd rfl h2)
    refine xV.step rfl ?_
    refine xV.step rfl ?_
    show xV D N0 mM_keep (d + 4) 50 [some (.ref m), some (.int c), some (.int k), some (.long s), none, some (.long (lk s)), none, some (.int 0), some (.int 0)] _ _ _
    repeat' refine xV.step rfl ?_
    refine xV.br rfl (fun h2 => ?_) (fun h2 => absurd rfl h2)
    refine xV.step rfl ?_
    refine xV.step rfl ?_
    exact tl 1 _ rfl (Or.inl rfl) (by unfold tKeep; rw [if_neg hz])
  show xV D N0 mM_keep (d + 4) 0 [some (.ref m), some (.int c), some (.int k), some (.long s), none, none, none, none, none] _ _ _
  repeat' refine xV.step rfl ?_
  refine xV.cS rfl rfl g_mM_keep_158 mM_lockOf_ok (Nat.le_of_ble_eq_true rfl) (Nat.le_of_ble_eq_true rfl) c_M_lockOf ?_
  refine xV.step rfl ?_
  show xV D N0 mM_keep (d + 4) 6 [some (.ref m), some (.int c), some (.int k), some (.long s), none, some (.long (lk s)), none, none, none] _ _ _
  repeat' refine xV.step rfl ?_
  refine xV.cM rfl rfl g_mM_keep_196 mM_isChannel_ok (Nat.le_of_ble_eq_true rfl) (Nat.le_of_ble_eq_true rfl) c_M_isChannel' ?_
  refine xV.br rfl (fun h1 => no (fun z => by rw [xB_f h1] at z; cases z.1)) (fun h1 => ?_)
  obtain ⟨rfl, hj, hl, hl2⟩ := hc (xB_t h1)
  repeat' refine xV.step rfl ?_
  refine xV.cM rfl rfl g_mM_keep_182 mM_now_ok (Nat.le_of_ble_eq_true rfl) (Nat.le_of_ble_eq_true rfl) (c_M_now hj hl hl2) ?_
  repeat' refine xV.step rfl ?_
  refine xV.cS rfl rfl g_mM_keep_218 mM_hasBit_ok (Nat.le_of_ble_eq_true rfl) (Nat.le_of_ble_eq_true rfl) c_M_hasBit ?_
  refine xV.br rfl (fun h2 => no (fun z => by rw [show mbit (mnow A j l) k = false from xB_f h2] at z; cases z.2)) (fun h2 => ?_)
  have hb : mbit (mnow A j l) k = true := xB_t h2
  obtain ⟨rfl, hq2⟩ := hq hb
  have hthere : isc A (nI j) = true ∧ mbit (mnow A j l) (nI q) = true := ⟨xB_t h1, hb⟩
  refine xV.step rfl ?_
  refine xV.step rfl ?_
  refine xV.step rfl ?_
  show xV D N0 mM_keep (d + 4) 33 [some (.ref m), some (.int (nI j)), some (.int (nI q)), some (.long s), none, some (.long (lk s)), none, some (.int 1), none] _ _ _
  refine xV.step rfl ?_
  refine xV.br rfl (fun h3 => absurd h3 (by decide)) (fun h3 => ?_)
  refine xV.step rfl ?_
  refine xV.step rfl ?_
  refine xV.step rfl ?_
  refine xV.step rfl ?_
  refine xV.step rfl ?_
  refine xV.step rfl ?_
  refine xV.step rfl ?_
  show xV D N0 mM_keep (d + 4) 50 [some (.ref m), some (.int (nI j)), some (.int (nI q)), some (.long s), none, some (.long (lk s)), none, some (.int 1), some (.int (64 * nI j + nI q))] _ _ _
  repeat' refine xV.step rfl ?_
  refine xV.br rfl (fun h3 => absurd h3 (by decide)) (fun h3 => ?_)
  repeat' first
    | refine xV.step rfl ?_
    | refine xV.mget rfl rfl ?_
    | refine xV.mj' (n := 512) (j := 64 * j + q) rfl rfl rfl (xn_ix j q) (by omega) ?_
  refine xV.br rfl (fun h4 => ?_) (fun h4 => ?_)
  case refine_2 =>
    rw [lg_cmp_eq0] at h4
    refine xV.step rfl ?_
    refine xV.step rfl ?_
    exact tl 2 _ rfl (Or.inr (Or.inl rfl)) (by unfold tKeep; rw [if_pos hthere, if_pos h4])
  rw [lg_cmp_eq0] at h4
  have thr : (A.2.1 8 j ≠ 0 ∨ A.2.1 17 (64 * j + q) ≤ A.1 6 ∨ ¬ A.2.1 9 j + 1 < 64 ∨ mhas A K (lk s) = false) → ∀ LV : XL, xnth LV 0 = some (.ref m) → xV D N0 mM_keep (d + 4) 117 LV [.ref m] (hm m A h) (xTw (tKeep A (nI j) (nI q) s j l q K) (.returned (some (.int 0))) (hm m (mF A 0 (tKeep A (nI j) (nI q) s j l q K)) h) (.returned (some (.int (nI (l + 1))))) (hm m (mkeep2 A j l q K s) h)) := fun hz LV hLV => by
    refine xV.step rfl ?_
    refine xV.step rfl ?_
    exact tl 3 _ hLV (Or.inr (Or.inr rfl)) (by unfold tKeep; rw [if_pos hthere, if_neg (fun z => z h4), if_pos hz])
  repeat' first
    | refine xV.step rfl ?_
    | refine xV.mget rfl rfl ?_
    | refine xV.mi (j := j) rfl rfl rfl hj ?_
  refine xV.br rfl (fun h5 => ?_) (fun h5 => thr (Or.inl h5) _ rfl)
  repeat' first
    | refine xV.step rfl ?_
    | refine xV.mget rfl rfl ?_
    | refine xV.mi' (n := 512) (j := 64 * j + q) rfl rfl rfl (xn_ix j q) (by omega) ?_
  refine xV.br rfl (fun h6 => thr (Or.inr (Or.inl h6)) _ rfl) (fun h6 => ?_)
  repeat' refine xV.step rfl ?_
  refine xV.cM rfl rfl g_mM_keep_205 mM_hasState_ok (Nat.le_of_ble_eq_true rfl) (Nat.le_of_ble_eq_true rfl) (c_M_hasState hj) ?_
  refine xV.br rfl (fun h7 => thr (Or.inr (Or.inr (Or.inl (of_decide_eq_false (xB_f h7))))) _ rfl) (fun h7 => ?_)
  have h7' := of_decide_eq_true (xB_t h7)
  repeat' refine xV.step rfl ?_
  refine xV.cM rfl rfl g_mM_keep_166 mM_hasRoom_ok (Nat.le_of_ble_eq_true rfl) (Nat.le_of_ble_eq_true rfl) (c_M_hasRoom hK hK2) ?_
  refine xV.br rfl (fun h8 => thr (Or.inr (Or.inr (Or.inr (xB_f h8)))) _ rfl) (fun h8 => ?_)
  have h8' : mhas A K (lk s) = true := xB_t h8
  have hT : tKeep A (nI j) (nI q) s j l q K = 0 := by
    unfold tKeep
    rw [if_pos hthere, if_neg (fun z => z h4), if_neg]
    rintro (z | z | z | z)
    · exact z h5
    · exact h6 z
    · exact z h7'
    · rw [h8'] at z; cases z
  have hl3 : l < 63 := lat_lt hl2 (by rw [← hl]; exact h7')
  refine xV.step rfl ?_
  refine xV.mput rfl rfl rfl (Nat.le_of_ble_eq_true rfl) ?_
  repeat' refine xV.step rfl ?_
  refine xV.mget (v := .int 0) rfl rfl ?_
  refine xV.br rfl (fun h9 => ?_) (fun h9 => absurd (by decide) h9)
  repeat' refine xV.step rfl ?_
  refine xV.cM rfl rfl g_mM_keep_222 mM_keepPromise_ok (Nat.le_of_ble_eq_true rfl) (Nat.le_of_ble_eq_true rfl) (c_M_keepPromise (A := mF A 0 0) hj hl hl3 hq2 hK hK2 (by rw [show (mF A 0 0).2.2 16 (64 * j + q) = lk s from h4]; exact h8')) ?_
  repeat' first
    | refine xV.step rfl ?_
    | refine xV.mget rfl rfl ?_
    | refine xV.mi' (n := 512) (j := 64 * j + q) rfl rfl rfl (xn_ix j q) (by omega) ?_
  refine xV.cM rfl rfl g_mM_keep_192 mM_nodeOf_ok (Nat.le_of_ble_eq_true rfl) (Nat.le_of_ble_eq_true rfl) (c_M_nodeOf hj) ?_
  rw [mkeep_node, mkeep_pay]
  repeat' refine xV.step rfl ?_
  have hK' := mkeep_K (A := mF A 0 0) (j := j) (l := l) (q := q) (K := K) hK
  have hh' := mkeep_has (A := mF A 0 0) (j := j) (l := l) (q := q) (K := K)
  rw [show (mF A 0 0).2.2 16 (64 * j + q) = lk s from h4] at hK' hh'
  refine xV.cM rfl rfl g_mM_keep_170 mM_learn_ok (Nat.le_of_ble_eq_true rfl) (Nat.le_of_ble_eq_true rfl) (c_M_learn hK' (mK_le (A := mF A 0 0) hK2 h8') hh') ?_
  repeat' first
    | refine xV.step rfl ?_
    | refine xV.mget rfl rfl ?_
    | refine xV.mi (j := j) rfl rfl rfl hj ?_
  refine xV.iret rfl rfl rfl (Or.inr ⟨hT, ?_, rfl⟩)
  rw [mlearn_lat, mkeep_lat]
  simp [upd]
def tSet (A : MS) (c : Int32) (j : Nat) : Int32 := if isc A c = true then (if A.2.1 8 j ≠ 1 ∨ A.2.1 22 j ≠ 0 ∨ A.1 6 < A.2.1 20 j + 10 then 2 else 0) else 1
def mset1 (A : MS) (j q s o : Nat) : MS :=
  let b := A.2.1 10 (2 * (64 * j + q) + s)
  let A1 := mI A 1 o (A.2.1 1 o + b)
  mI A1 12 j (A1.2.1 12 j - b)
def mset (A : MS) (j q f s : Nat) : MS :=
  let A2 := mset1 (mset1 (mI (mF A 0 0) 22 j 1) j q 0 f) j q 1 s
  if A2.2.2 21 j = 0 then mI (mI A2 8 j 2) 12 j 0 else A2
theorem c_M_settle {j q f s : Nat} {c : Int32} (hc : isc A c = true → c = nI j ∧ j < 8 ∧ A.2.1 6 j = nI f ∧ f < 6 ∧ A.2.1 7 j = nI s ∧ s < 6) (hq : isc A c = true → A.2.1 8 j = 1 → A.2.1 18 j = nI q ∧ q < 64) :
    xV D N0 mM_settle (d + 3) 0 (xargs 4 [.ref m, .int c]) [] (hm m A h) (xTw (tSet A c j) (.returned (some (.int 0))) (hm m (mF A 0 (tSet A c j)) h) (.returned (some (.int ((mset A j q f s).2.1 8 j)))) (hm m (mset A j q f s) h)) := by
  have tl : ∀ t : Int32, t = 1 ∨ t = 2 → tSet A c j = t → xV D N0 mM_settle (d + 3) 53 (xargs 4 [.ref m, .int c]) [.int t, .ref m] (hm m A h) (xTw (tSet A c j) (.returned (some (.int 0))) (hm m (mF A 0 (tSet A c j)) h) (.returned (some (.int ((mset A j q f s).2.1 8 j)))) (hm m (mset A j q f s) h)) := by
    intro t ht hT
    have h0 : t ≠ 0 ∧ ¬ t ≤ 0 := by rcases ht with rfl | rfl <;> exact ⟨by decide, by decide⟩
    refine xV.mput rfl rfl rfl (Nat.le_of_ble_eq_true rfl) ?_
    repeat' refine xV.step rfl ?_
    refine xV.mget (v := .int t) rfl rfl ?_
    refine xV.br rfl (fun h2 => absurd h2 h0.2) (fun h2 => ?_)
    repeat' refine xV.step rfl ?_
    exact xV.iret rfl rfl rfl (Or.inl ⟨by rw [hT]; exact h0.1, rfl, by rw [hT]⟩)
  repeat' refine xV.step rfl ?_
  refine xV.cM rfl rfl g_mM_settle_196 mM_isChannel_ok (Nat.le_of_ble_eq_true rfl) (Nat.le_of_ble_eq_true rfl) c_M_isChannel' ?_
  refine xV.br rfl (fun h1 => ?_) (fun h1 => ?_)
  · refine xV.step rfl ?_
    refine xV.step rfl ?_
    exact tl 1 (Or.inl rfl) (by unfold tSet; rw [if_neg (by rw [xB_f h1]; decide)])
  obtain ⟨rfl, hj, hf, hf2, hs, hs2⟩ := hc (xB_t h1)
  have two : (A.2.1 8 j ≠ 1 ∨ A.2.1 22 j ≠ 0 ∨ A.1 6 < A.2.1 20 j + 10) → xV D N0 mM_settle (d + 3) 48 (xargs 4 [.ref m, .int (nI j)]) [.ref m] (hm m A h) (xTw (tSet A (nI j) j) (.returned (some (.int 0))) (hm m (mF A 0 (tSet A (nI j) j)) h) (.returned (some (.int ((mset A j q f s).2.1 8 j)))) (hm m (mset A j q f s) h)) := fun hz => by
    refine xV.step rfl ?_
    refine xV.step rfl ?_
    exact tl 2 (Or.inr rfl) (by unfold tSet; rw [if_pos (xB_t h1), if_pos hz])
  repeat' first
    | refine xV.step rfl ?_
    | refine xV.mget rfl rfl ?_
    | refine xV.mi (j := j) rfl rfl rfl hj ?_
  refine xV.br rfl (fun h2 => ?_) (fun h2 => two (Or.inl h2))
  repeat' first
    | refine xV.step rfl ?_
    | refine xV.mget rfl rfl ?_
    | refine xV.mz (j := j) rfl rfl rfl hj ?_
  refine xV.br rfl (fun h3 => ?_) (fun h3 => two (Or.inr (Or.inl h3)))
  repeat' first
    | refine xV.step rfl ?_
    | refine xV.mget rfl rfl ?_
    | refine xV.mi (j := j) rfl rfl rfl hj ?_
  refine xV.br rfl (fun h4 => ?_) (fun h4 => two (Or.inr (Or.inr (by simp only [Int32.lt_iff_toInt_lt, Int32.le_iff_toInt_le] at *; omega))))
  have hT : tSet A (nI j) j = 0 := by
    unfold tSet
    rw [if_pos (xB_t h1), if_neg]
    rintro (z | z | z)
    · exact z h2
    · exact z h3
    · simp only [Int32.lt_iff_toInt_lt, Int32.le_iff_toInt_le] at *; omega
  obtain ⟨hpq, hq2⟩ := hq (xB_t h1) h2
  have body : ∀ (B : MS) (x o : Nat) (y : Option Value), x < 2 → B.2.1 18 j = nI q → mnode B j (nI x) = nI o → o < 6 → ∀ Q, xV D N0 mM_settle (d + 3) 74 [some (.ref m), some (.int (nI j)), some (.int (nI (x + 1))), some (.int (B.2.1 10 (2 * (64 * j + q) + x)))] [] (hm m (mset1 B j q x o) h) Q → xV D N0 mM_settle (d + 3) 74 [some (.ref m), some (.int (nI j)), some (.int (nI x)), y] [] (hm m B h) Q := by
    intro B x o y hx hB ho ho2 Q kk
    repeat' refine xV.step rfl ?_
    refine xV.br rfl (fun h5 => ?_) (fun h5 => ?_)
    · rw [show (2 : Int32) = nI 2 from rfl, xn_le (by omega) (by omega)] at h5
      omega
    repeat' first
      | refine xV.step rfl ?_
      | refine xV.mget rfl rfl ?_
      | refine xV.mi (j := j) rfl rfl rfl hj ?_
    rw [hB]
    repeat' refine xV.step rfl ?_
    refine xV.cS rfl rfl g_mM_settle_178 mM_cell_ok (Nat.le_of_ble_eq_true rfl) (Nat.le_of_ble_eq_true rfl) c_M_cell ?_
    refine xV.mi' (n := 1024) rfl rfl rfl (xn_cell j q x) (by omega) ?_
    refine xV.step rfl ?_
    show xV D N0 mM_settle (d + 3) 96 [some (.ref m), some (.int (nI j)), some (.int (nI x)), some (.int (B.2.1 10 (2 * (64 * j + q) + x)))] _ _ _
    repeat' first
      | refine xV.step rfl ?_
      | refine xV.mget rfl rfl ?_
    refine xV.cM rfl rfl g_mM_settle_192 mM_nodeOf_ok (Nat.le_of_ble_eq_true rfl) (Nat.le_of_ble_eq_true rfl) (c_M_nodeOf hj) ?_
    rw [ho]
    rw [← xn_succ] at kk
    repeat' first
      | exact kk
      | refine xV.step rfl ?_
      | refine xV.mget rfl rfl ?_
      | refine xV.mi (j := o) rfl rfl rfl ho2 ?_
      | refine xV.si (j := o) rfl rfl rfl rfl ho2 ?_
      | refine xV.mi (j := j) rfl rfl rfl hj ?_
      | refine xV.si (j := j) rfl rfl rfl rfl hj ?_
  refine xV.step rfl ?_
  refine xV.mput rfl rfl rfl (Nat.le_of_ble_eq_true rfl) ?_
  repeat' refine xV.step rfl ?_
  refine xV.mget (v := .int 0) rfl rfl ?_
  refine xV.br rfl (fun h9 => ?_) (fun h9 => absurd (by decide) h9)
  repeat' first
    | refine xV.step rfl ?_
    | refine xV.mget rfl rfl ?_
  refine xV.sz (j := j) rfl rfl rfl rfl hj rfl ?_
  refine xV.step rfl ?_
  refine xV.step rfl ?_
  refine body (mI (mF A 0 0) 22 j 1) 0 f none (by omega) hpq (by show (if (0 : Int32) = 0 then A.2.1 6 j else A.2.1 7 j) = nI f; rw [if_pos rfl]; exact hf) hf2 _ ?_
  refine body (mset1 (mI (mF A 0 0) 22 j 1) j q 0 f) 1 s _ (by omega) hpq (by show (if (1 : Int32) = 0 then A.2.1 6 j else A.2.1 7 j) = nI s; rw [if_neg (by decide)]; exact hs) hs2 _ ?_
  have fin : ∀ (B : MS) (y : Int32), mset A j q f s = B → xV D N0 mM_settle (d + 3) 143 [some (.ref m), some (.int (nI j)), some (.int (nI (1 + 1))), some (.int y)] [] (hm m B h) (xTw (tSet A (nI j) j) (.returned (some (.int 0))) (hm m (mF A 0 (tSet A (nI j) j)) h) (.returned (some (.int ((mset A j q f s).2.1 8 j)))) (hm m (mset A j q f s) h)) := by
    intro B y hB
    rw [hB]
    repeat' first
      | refine xV.step rfl ?_
      | refine xV.mget rfl rfl ?_
      | refine xV.mi (j := j) rfl rfl rfl hj ?_
    exact xV.iret rfl rfl rfl (Or.inr ⟨hT, rfl, rfl⟩)
  repeat' refine xV.step rfl ?_
  refine xV.br rfl (fun h5 => ?_) (fun h5 => absurd (by decide) h5)
  repeat' first
    | refine xV.step rfl ?_
    | refine xV.mget rfl rfl ?_
    | refine xV.mj (j := j) rfl rfl rfl hj ?_
  refine xV.br rfl (fun h6 => ?_) (fun h6 => ?_)
  · rw [lg_cmp_eq0] at h6
    repeat' refine xV.step rfl ?_
    refine xV.cM rfl rfl g_mM_settle_229 mM_shut_ok (Nat.le_of_ble_eq_true rfl) (Nat.le_of_ble_eq_true rfl) (c_M_shut hj) ?_
    exact fin _ _ (if_pos h6)
  · rw [lg_cmp_eq0] at h6
    exact fin _ _ (if_neg h6)
end X29
