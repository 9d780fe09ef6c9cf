/- Part 26: the model: promise, keep, publish, punish. -/
def tKeep (A : MS) (c k : Int32) (s : Int64) (j l q K : Nat) : Int32 := if isc A c = true ∧ mbit (mnow A j l) k = true then (if A.2.2 16 (64 * j + q) ≠ lk s then 2 else if A.2.1 8 j ≠ 0 ∨ A.2.1 17 (64 * j + q) ≤ A.1 6 ∨ ¬ A.2.1 9 j + 1 < 64 ∨ mhas A K (lk s) = false then 3 else 0) else 1
def mK (A : MS) (K : Nat) (k : Int64) : Nat := match mfind (A.2.2 23) k K with
  | some _ => K
  | none => K + 1
def mkeep2 (A : MS) (j l q K : Nat) (s : Int64) : MS :=
  let A2 := mkeep (mF A 0 0) j l q K
  mlearn A2 (mK A K (lk s)) (lk s) ((1 : Int32) <<< (mnode A j (1 - A.2.1 14 (64 * j + q)) &&& 31))
def tPub (A : MS) (c n s : Int32) (j : Nat) : Int32 := if isc A c = true ∧ mside A j n ≠ -1 ∧ (0 ≤ s ∧ s ≤ A.2.1 9 j) then (if A.2.1 8 j ≠ 0 then 2 else 0) else 1
def mpub (A : MS) (j q : Nat) (n : Int32) : MS := mJ (mI (mI (mI (mI (mF A 0 0) 8 j 1) 18 j (nI q)) 19 j n) 20 j (A.1 6)) 21 j (A.2.2 11 (64 * j + q))
def tPun (A : MS) (c : Int32) (j : Nat) : Int32 := if isc A c = true then (if mmay A j = true then 0 else 2) else 1
theorem mlearn_K {A : MS} {K : Nat} {k : Int64} {w : Int32} (hK : A.1 25 = nI K) : (mlearn A K k w).1 25 = nI (mK A K k) := by
  unfold mlearn mK
  cases hf : mfind (A.2.2 23) k K with
  | none => exact xn_succ K
  | some j => exact hK
theorem mfind_learn {A : MS} {K : Nat} {k : Int64} {w : Int32} : (mfind ((mlearn A K k w).2.2 23) k (mK A K k)).isSome = true := by
  unfold mlearn mK
  cases hf : mfind (A.2.2 23) k K with
  | none =>
    show (if vp_updL (A.2.2 23) K k K = k then some K else mfind (vp_updL (A.2.2 23) K k) k K).isSome = true
    rw [if_pos (by simp [vp_updL])]
    rfl
  | some j =>
    show (mfind (A.2.2 23) k K).isSome = true
    rw [hf]; rfl
section X26
variable {D : va_G} {N0 : Nat} {d m : Nat} {h : XH} {A : MS}
theorem mK_le {K : Nat} {k : Int64} (hK : K ≤ 24) (hr : mhas A K k = true) : mK A K k ≤ 24 := by
  unfold mK
  unfold mhas at hr
  cases hf : mfind (A.2.2 23) k K with
  | none => rw [hf] at hr; simp at hr; show K + 1 ≤ 24; omega
  | some j => exact hK
theorem c_M_promise {j l k : Nat} {c n a e : Int32} {lock : Int64} (hc : isc A c = true → c = nI j ∧ j < 8 ∧ A.2.1 9 j = nI l ∧ l < 64 ∧ A.2.1 13 j = nI k ∧ k < 64) :
    xV D N0 mM_promise (d + 4) 0 (xargs 8 [.ref m, .int c, .int n, .int a, .long lock, .int e]) [] (hm m A h) (xTw (tProm A c n a e j l) (.returned (some (.int 0))) (hm m (mF A 0 (tProm A c n a e j l)) h) (.returned (some (.int (nI k)))) (hm m (madd (mF A 0 0) j l k (mside A j n) a lock e) h)) := by
  have tl : ∀ t x : Int32, t = 1 ∨ t = 2 ∨ t = 3 → tProm A c n a e j l = t → xV D N0 mM_promise (d + 4) 95 [some (.ref m), some (.int c), some (.int n), some (.int a), some (.long lock), none, some (.int e), some (.int x)] [.int t, .ref m] (hm m A h) (xTw (tProm A c n a e j l) (.returned (some (.int 0))) (hm m (mF A 0 (tProm A c n a e j l)) h) (.returned (some (.int (nI k)))) (hm m (madd (mF A 0 0) j l k (mside A j n) a lock e) h)) := by
    intro t x ht hT
    have h0 : t ≠ 0 ∧ ¬ t ≤ 0 := by rcases ht with rfl | rfl | rfl <;> exact ⟨by decide, by decide⟩
    refine xV.mput rfl rfl rfl (Nat.le_of_ble_eq_true rfl) ?_
    repeat' refine xV.step rfl ?_
    refine xV.mget (v := .int t) rfl rfl ?_
    refine xV.br rfl (fun h2 => absurd h2 h0.2) (fun h2 => ?_)
    repeat' refine xV.step rfl ?_
    exact xV.iret rfl rfl rfl (Or.inl ⟨by rw [hT]; exact h0.1, rfl, by rw [hT]⟩)
  repeat' refine xV.step rfl ?_
  refine xV.cM rfl rfl g_mM_promise_196 mM_isChannel_ok (Nat.le_of_ble_eq_true rfl) (Nat.le_of_ble_eq_true rfl) c_M_isChannel' ?_
  refine xV.br rfl (fun h1 => ?_) (fun h1 => ?_)
  · repeat' refine xV.step rfl ?_
    refine xV.br rfl (fun h2 => ?_) (fun h2 => absurd rfl h2)
    refine xV.step rfl ?_
    refine xV.step rfl ?_
    exact tl 1 (-1) (Or.inl rfl) (by unfold tProm; rw [if_neg (fun z => by rw [xB_f h1] at z; cases z.1)])
  obtain ⟨rfl, hj, hl, hl2, hk, hk2⟩ := hc (xB_t h1)
  repeat' refine xV.step rfl ?_
  refine xV.cM rfl rfl g_mM_promise_199 mM_sideOf_ok (Nat.le_of_ble_eq_true rfl) (Nat.le_of_ble_eq_true rfl) (c_M_sideOf hj) ?_
  repeat' refine xV.step rfl ?_
  refine xV.br rfl (fun h2 => ?_) (fun h2 => ?_)
  · refine xV.step rfl ?_
    refine xV.step rfl ?_
    exact tl 1 _ (Or.inl rfl) (by unfold tProm; rw [if_neg (fun z => z.2 h2)])
  have hthere : isc A (nI j) = true ∧ mside A j n ≠ -1 := ⟨xB_t h1, h2⟩
  have hsd := mside_nat h2
  have hs2 := msd_lt A j n
  repeat' refine xV.step rfl ?_
  refine xV.br rfl (fun h3 => ?_) (fun h3 => ?_)
  case refine_2 =>
    refine xV.step rfl ?_
    refine xV.step rfl ?_
    exact tl 2 _ (Or.inr (Or.inl rfl)) (by unfold tProm; rw [if_pos hthere, if_pos (by simp only [Int32.lt_iff_toInt_lt, Int32.le_iff_toInt_le] at *; omega)])
  have h3' : ¬ a < 1 := by simp only [Int32.lt_iff_toInt_lt, Int32.le_iff_toInt_le] at *; omega
  have thr : (A.2.1 8 j ≠ 0 ∨ bitsN (mnow A j l) 64 = 6 ∨ ¬ A.2.1 9 j + 1 < 64 ∨ A.2.1 10 (2 * (64 * j + l) + msd A j n) < a ∨ e ≤ A.1 6) → xV D N0 mM_promise (d + 4) 90 [some (.ref m), some (.int (nI j)), some (.int n), some (.int a), some (.long lock), none, some (.int e), some (.int (mside A j n))] [.ref m] (hm m A h) (xTw (tProm A (nI j) n a e j l) (.returned (some (.int 0))) (hm m (mF A 0 (tProm A (nI j) n a e j l)) h) (.returned (some (.int (nI k)))) (hm m (madd (mF A 0 0) j l k (mside A j n) a lock e) h)) := fun hz => by
    refine xV.step rfl ?_
    refine xV.step rfl ?_
    exact tl 3 _ (Or.inr (Or.inr rfl)) (by unfold tProm; rw [if_pos hthere, if_neg h3', if_pos hz])
  repeat' first
    | refine xV.step rfl ?_
    | refine xV.mget rfl rfl ?_
    | refine xV.mi (j := j) rfl rfl rfl hj ?_
  refine xV.br rfl (fun h4 => ?_) (fun h4 => thr (Or.inl h4))
  repeat' refine xV.step rfl ?_
  refine xV.cM rfl rfl g_mM_promise_182 mM_now_ok (Nat.le_of_ble_eq_true rfl) (Nat.le_of_ble_eq_true rfl) (c_M_now hj hl hl2) ?_
  refine xV.cS rfl rfl g_mM_promise_202 mM_bits_ok (Nat.le_of_ble_eq_true rfl) (Nat.le_of_ble_eq_true rfl) c_M_bits ?_
  repeat' refine xV.step rfl ?_
  refine xV.br rfl (fun h5 => thr (Or.inr (Or.inl h5))) (fun h5 => ?_)
  repeat' refine xV.step rfl ?_
  refine xV.cM rfl rfl g_mM_promise_205 mM_hasState_ok (Nat.le_of_ble_eq_true rfl) (Nat.le_of_ble_eq_true rfl) (c_M_hasState hj) ?_
  refine xV.br rfl (fun h6 => thr (Or.inr (Or.inr (Or.inl (of_decide_eq_false (xB_f h6)))))) (fun h6 => ?_)
  have h6' := of_decide_eq_true (xB_t h6)
  repeat' refine xV.step rfl ?_
  rw [hsd] at thr ⊢
  refine xV.cM rfl rfl g_mM_promise_208 mM_balance_ok (Nat.le_of_ble_eq_true rfl) (Nat.le_of_ble_eq_true rfl) (c_M_balance hj hl hl2 hs2) ?_
  repeat' refine xV.step rfl ?_
  refine xV.br rfl (fun h7 => thr (Or.inr (Or.inr (Or.inr (Or.inl h7))))) (fun h7 => ?_)
  repeat' first
    | refine xV.step rfl ?_
    | refine xV.mget rfl rfl ?_
  refine xV.br rfl (fun h8 => ?_) (fun h8 => thr (Or.inr (Or.inr (Or.inr (Or.inr (by simp only [Int32.lt_iff_toInt_lt, Int32.le_iff_toInt_le] at *; omega))))))
  have hT : tProm A (nI j) n a e j l = 0 := by
    unfold tProm
    rw [if_pos hthere, if_neg h3', if_neg]
    rintro (z | z | z | z | z)
    · exact z h4
    · exact h5 z
    · exact z h6'
    · exact h7 z
    · simp only [Int32.lt_iff_toInt_lt, Int32.le_iff_toInt_le] at *; omega
  have hl3 : l < 63 := lat_lt hl2 (by rw [← hl]; exact h6')
  refine xV.step rfl ?_
  refine xV.mput rfl rfl rfl (Nat.le_of_ble_eq_true rfl) ?_
  repeat' refine xV.step rfl ?_
  refine xV.mget (v := .int 0) rfl rfl ?_
  refine xV.br rfl (fun h9 => ?_) (fun h9 => absurd (by decide) h9)
  repeat' refine xV.step rfl ?_
  refine xV.cM rfl rfl g_mM_promise_214 mM_addPromise_ok (Nat.le_of_ble_eq_true rfl) (Nat.le_of_ble_eq_true rfl) (c_M_addPromise (A := mF A 0 0) hj hl hl3 hk hk2) ?_
  exact xV.iret rfl rfl rfl (Or.inr ⟨hT, rfl, rfl⟩)
theorem c_M_publish {j q : Nat} {c n s : Int32} (hc : isc A c = true → c = nI j ∧ j < 8) (hq : 0 ≤ s ∧ s ≤ A.2.1 9 j → s = nI q ∧ q < 64) :
    xV D N0 mM_publish (d + 3) 0 (xargs 5 [.ref m, .int c, .int n, .int s]) [] (hm m A h) (xTw (tPub A c n s j) (.returned none) (hm m (mF A 0 (tPub A c n s j)) h) (.returned none) (hm m (mpub A j q n) h)) := by
  have tl : ∀ t x : Int32, t = 1 ∨ t = 2 → tPub A c n s j = t → xV D N0 mM_publish (d + 3) 63 [some (.ref m), some (.int c), some (.int n), some (.int s), some (.int x)] [.int t, .ref m] (hm m A h) (xTw (tPub A c n s j) (.returned none) (hm m (mF A 0 (tPub A c n s j)) h) (.returned none) (hm m (mpub A j q n) h)) := by
    intro t x ht hT
    have h0 : t ≠ 0 := by rcases ht with rfl | rfl <;> decide
    refine xV.mput rfl rfl rfl (Nat.le_of_ble_eq_true rfl) ?_
    repeat' refine xV.step rfl ?_
    refine xV.mget (v := .int t) rfl rfl ?_
    refine xV.br rfl (fun h2 => absurd h2 h0) (fun h2 => ?_)
    exact xV.vret rfl rfl (Or.inl ⟨by rw [hT]; exact h0, rfl, by rw [hT]⟩)
  have no : ¬ (isc A c = true ∧ mside A j n ≠ -1 ∧ (0 ≤ s ∧ s ≤ A.2.1 9 j)) → xV D N0 mM_publish (d + 3) 36 (xargs 5 [.ref m, .int c, .int n, .int s]) [] (hm m A h) (xTw (tPub A c n s j) (.returned none) (hm m (mF A 0 (tPub A c n s j)) h) (.returned none) (hm m (mpub A j q n) h)) := fun hz => by
    repeat' refine xV.step rfl ?_
    refine xV.br rfl (fun h2 => ?_) (fun h2 => absurd rfl h2)
    refine xV.step rfl ?_
    refine xV.step rfl ?_
    exact tl 1 0 (Or.inl rfl) (by unfold tPub; rw [if_neg hz])
  repeat' refine xV.step rfl ?_
  refine xV.cM rfl rfl g_mM_publish_196 mM_isChannel_ok (Nat.le_of_ble_eq_true rfl) (Nat.le_of_ble_eq_true rfl) c_M_isChannel' ?_
  refine xV.br rfl (fun h1 => no (fun z => by rw [xB_f h1] at z; cases z.1)) (fun h1 => ?_)
  obtain ⟨rfl, hj⟩ := hc (xB_t h1)
  repeat' refine xV.step rfl ?_
  refine xV.cM rfl rfl g_mM_publish_199 mM_sideOf_ok (Nat.le_of_ble_eq_true rfl) (Nat.le_of_ble_eq_true rfl) (c_M_sideOf hj) ?_
  repeat' refine xV.step rfl ?_
  refine xV.br rfl (fun h2 => no (fun z => z.2.1 h2)) (fun h2 => ?_)
  repeat' first
    | refine xV.step rfl ?_
    | refine xV.mget rfl rfl ?_
    | refine xV.mi (j := j) rfl rfl rfl hj ?_
  refine xV.cS rfl rfl g_mM_publish_140 mM_isIn_ok (Nat.le_of_ble_eq_true rfl) (Nat.le_of_ble_eq_true rfl) c_M_isIn ?_
  refine xV.br rfl (fun h3 => no (fun z => of_decide_eq_false (xB_f h3) z.2.2)) (fun h3 => ?_)
  have hs3 := of_decide_eq_true (xB_t h3)
  obtain ⟨rfl, hq2⟩ := hq hs3
  repeat' refine xV.step rfl ?_
  refine xV.br rfl (fun h4 => absurd h4 (by decide)) (fun h4 => ?_)
  repeat' first
    | refine xV.step rfl ?_
    | refine xV.mget rfl rfl ?_
    | refine xV.mi (j := j) rfl rfl rfl hj ?_
  refine xV.br rfl (fun h5 => ?_) (fun h5 => ?_)
  · have hT : tPub A (nI j) n (nI q) j = 0 := by unfold tPub; rw [if_pos ⟨xB_t h1, h2, hs3⟩, if_neg (fun z => z h5)]
    refine xV.step rfl ?_
    refine xV.mput rfl rfl rfl (Nat.le_of_ble_eq_true rfl) ?_
    repeat' refine xV.step rfl ?_
    refine xV.mget (v := .int 0) rfl rfl ?_
    refine xV.br rfl (fun h9 => ?_) (fun h9 => absurd rfl h9)
    repeat' first
      | refine xV.step rfl ?_
      | refine xV.mget rfl rfl ?_
      | refine xV.si (j := j) rfl rfl rfl rfl hj ?_
      | refine xV.mj' (n := 512) (j := 64 * j + q) rfl rfl rfl (xn_ix j q) (by omega) ?_
      | refine xV.sj (j := j) rfl rfl rfl rfl hj ?_
    exact xV.vret rfl rfl (Or.inr ⟨hT, rfl, rfl⟩)
  · refine xV.step rfl ?_
    refine xV.step rfl ?_
    exact tl 2 1 (Or.inr rfl) (by unfold tPub; rw [if_pos ⟨xB_t h1, h2, hs3⟩, if_pos h5])
theorem moth_pun {j o : Nat} : moth (mpun A j o) j = moth A j := rfl
theorem c_M_punish {j o : Nat} {c : Int32} (hc : isc A c = true → c = nI j ∧ j < 8) (ho : isc A c = true → mmay A j = true → moth A j = nI o ∧ o < 6) :
    xV D N0 mM_punish (d + 4) 0 (xargs 2 [.ref m, .int c]) [] (hm m A h) (xTw (tPun A c j) (.returned (some (.int 0))) (hm m (mF A 0 (tPun A c j)) h) (.returned (some (.int ((mpun (mF A 0 0) j o).2.1 1 o)))) (hm m (mpun (mF A 0 0) j o) h)) := by
  have tl : ∀ t : Int32, t = 1 ∨ t = 2 → tPun A c j = t → xV D N0 mM_punish (d + 4) 26 (xargs 2 [.ref m, .int c]) [.int t, .ref m] (hm m A h) (xTw (tPun A c j) (.returned (some (.int 0))) (hm m (mF A 0 (tPun A c j)) h) (.returned (some (.int ((mpun (mF A 0 0) j o).2.1 1 o)))) (hm m (mpun (mF A 0 0) j o) h)) := by
    intro t ht hT
    have h0 : t ≠ 0 ∧ ¬ t ≤ 0 := by rcases ht with rfl | rfl <;> exact ⟨by decide, by decide⟩
    refine xV.mput rfl rfl rfl (Nat.le_of_ble_eq_true rfl) ?_
    repeat' refine xV.step rfl ?_
    refine xV.mget (v := .int t) rfl rfl ?_
    refine xV.br rfl (fun h2 => absurd h2 h0.2) (fun h2 => ?_)
    repeat' refine xV.step rfl ?_
    exact xV.iret rfl rfl rfl (Or.inl ⟨by rw [hT]; exact h0.1, rfl, by rw [hT]⟩)
  repeat' refine xV.step rfl ?_
  refine xV.cM rfl rfl g_mM_punish_196 mM_isChannel_ok (Nat.le_of_ble_eq_true rfl) (Nat.le_of_ble_eq_true rfl) c_M_isChannel' ?_
  refine xV.br rfl (fun h1 => ?_) (fun h1 => ?_)
  · refine xV.step rfl ?_
    refine xV.step rfl ?_
    exact tl 1 (Or.inl rfl) (by unfold tPun; rw [if_neg (by rw [xB_f h1]; decide)])
  obtain ⟨rfl, hj⟩ := hc (xB_t h1)
  repeat' refine xV.step rfl ?_
  refine xV.cM rfl rfl g_mM_punish_273 mM_mayPunish_ok (Nat.le_of_ble_eq_true rfl) (Nat.le_of_ble_eq_true rfl) (c_M_mayPunish hj) ?_
  refine xV.br rfl (fun h2 => ?_) (fun h2 => ?_)
  · refine xV.step rfl ?_
    refine xV.step rfl ?_
    exact tl 2 (Or.inr rfl) (by unfold tPun; rw [if_pos (xB_t h1), if_neg (by rw [xB_f h2]; decide)])
  have hT : tPun A (nI j) j = 0 := by unfold tPun; rw [if_pos (xB_t h1), if_pos (xB_t h2)]
  obtain ⟨ho1, ho2⟩ := ho (xB_t h1) (xB_t h2)
  refine xV.step rfl ?_
  refine xV.mput rfl rfl rfl (Nat.le_of_ble_eq_true rfl) ?_
  repeat' refine xV.step rfl ?_
  refine xV.mget (v := .int 0) rfl rfl ?_
  refine xV.br rfl (fun h9 => ?_) (fun h9 => absurd (by decide) h9)
  repeat' refine xV.step rfl ?_
  refine xV.cM rfl rfl g_mM_punish_276 mM_punished_ok (Nat.le_of_ble_eq_true rfl) (Nat.le_of_ble_eq_true rfl) (c_M_punished (A := mF A 0 0) hj ho1 ho2) ?_
  repeat' first
    | refine xV.step rfl ?_
    | refine xV.mget rfl rfl ?_
  refine xV.cM rfl rfl g_mM_punish_270 mM_other_ok (Nat.le_of_ble_eq_true rfl) (Nat.le_of_ble_eq_true rfl) (c_M_other hj) ?_
  rw [show moth (mpun (mF A 0 0) j o) j = nI o from ho1]
  refine xV.mi (j := o) rfl rfl rfl ho2 ?_
  exact xV.iret rfl rfl rfl (Or.inr ⟨hT, rfl, rfl⟩)
end X26
