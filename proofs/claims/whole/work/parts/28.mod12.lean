/- Part 28: the model: claim, keep. -/
section X28a
variable {D : va_G} {N0 : Nat} {M : XM} {d pc : Nat} {lv : XL} {st : List Value} {h : XH} {Q : Outcome → XH → Prop}
theorem xV.ald0 {nx a : Nat} (hq : xon M pc = some (.aload_n 0, nx)) (h0 : xnth lv 0 = some (.ref a)) (k : xV D N0 M d nx lv (.ref a :: st) h Q) : xV D N0 M d pc lv st h Q := by
  refine xV.step ?_ k
  unfold xon at hq
  unfold xgo
  cases hl : xlook M.2.2.2.2.2 pc with
  | none => rw [hl] at hq; cases hq
  | some q =>
    obtain ⟨pc', i, len, nx', tg, cv, wi⟩ := q
    rw [hl] at hq
    simp only [Option.some.injEq, Prod.mk.injEq] at hq
    obtain ⟨rfl, rfl⟩ := hq
    have h1 : xnth lv ((0 : Fin 4) : Nat) = some (.ref a) := h0
    simp only [xstep, h1, xLd]
end X28a
section X28
variable {D : va_G} {N0 : Nat} {d m : Nat} {h : XH} {A : MS}
def mclaim (A : MS) (j q o K : Nat) (s : Int64) : MS := mgo (mlearn (mF A 0 0) K (lk s) 63) j q o
theorem mlearn_node {K : Nat} {k : Int64} {w : Int32} {j : Nat} {x : Int32} : mnode (mlearn A K k w) j x = mnode A j x := by
  unfold mlearn
  cases mfind (A.2.2 23) k K <;> rfl
theorem mlearn_pay {K : Nat} {k : Int64} {w : Int32} {i : Nat} : (mlearn A K k w).2.1 14 i = A.2.1 14 i := by
  unfold mlearn
  cases mfind (A.2.2 23) k K <;> rfl
theorem c_M_claim {j q o K : Nat} {c k : Int32} {s : Int64} (hK : A.1 25 = nI K) (hK2 : K ≤ 24) (hc : isc A c = true → c = nI j ∧ j < 8) (hk : mleft A c k j = true → k = nI q ∧ q < 64 ∧ mnode A j (1 - A.2.1 14 (64 * j + q)) = nI o ∧ o < 6) :
    xV D N0 mM_claim (d + 3) 0 (xargs 9 [.ref m, .int c, .int k, .long s]) [] (hm m A h) (xTw (tClaim A c k s j q K) (.returned (some (.int 0))) (hm m (mF A 0 (tClaim A c k s j q K)) h) (.returned (some (.int ((mclaim A j q o K s).2.1 1 o)))) (hm m (mclaim A j q o K s) h)) := by
  have tl : ∀ (t : Int32) (LV : XL), xnth LV 0 = some (.ref m) → t = 1 ∨ t = 2 ∨ t = 3 → tClaim A c k s j q K = t → xV D N0 mM_claim (d + 3) 104 LV [.int t, .ref m] (hm m A h) (xTw (tClaim A c k s j q K) (.returned (some (.int 0))) (hm m (mF A 0 (tClaim A c k s j q K)) h) (.returned (some (.int ((mclaim A j q o K s).2.1 1 o)))) (hm m (mclaim A j q o K s) h)) := by
    intro t LV hLV ht hT
    have h0 : t ≠ 0 ∧ ¬ t ≤ 0 := by rcases ht with rfl | rfl | rfl <;> exact ⟨by decide, by decide⟩
    refine xV.mput rfl rfl rfl (Nat.le_of_ble_eq_true rfl) ?_
    refine xV.ald0 rfl hLV ?_
    refine xV.mget (v := .int t) rfl rfl ?_
    refine xV.br rfl (fun h2 => absurd h2 h0.2) (fun h2 => ?_)
    repeat' refine xV.step rfl ?_
    exact xV.iret rfl rfl rfl (Or.inl ⟨by rw [hT]; exact h0.1, rfl, by rw [hT]⟩)
  show xV D N0 mM_claim (d + 3) 0 [some (.ref m), some (.int c), some (.int k), some (.long s), none, none, none, none, none] _ _ _
  repeat' refine xV.step rfl ?_
  refine xV.cS rfl rfl g_mM_claim_158 mM_lockOf_ok (Nat.le_of_ble_eq_true rfl) (Nat.le_of_ble_eq_true rfl) c_M_lockOf ?_
  refine xV.step rfl ?_
  show xV D N0 mM_claim (d + 3) 6 [some (.ref m), some (.int c), some (.int k), some (.long s), none, some (.long (lk s)), none, none, none] _ _ _
  repeat' refine xV.step rfl ?_
  refine xV.cM rfl rfl g_mM_claim_279 mM_isLeft_ok (Nat.le_of_ble_eq_true rfl) (Nat.le_of_ble_eq_true rfl) (c_M_isLeft hc) ?_
  refine xV.step rfl ?_
  show xV D N0 mM_claim (d + 3) 14 [some (.ref m), some (.int c), some (.int k), some (.long s), none, some (.long (lk s)), none, some (.int (xB (mleft A c k j))), none] _ _ _
  repeat' refine xV.step rfl ?_
  cases hlf : mleft A c k j with
  | false =>
    refine xV.br rfl (fun h1 => ?_) (fun h1 => absurd rfl h1)
    repeat' refine xV.step rfl ?_
    refine xV.br rfl (fun h2 => ?_) (fun h2 => absurd rfl h2)
    refine xV.step rfl ?_
    refine xV.step rfl ?_
    exact tl 1 _ rfl (Or.inl rfl) (by unfold tClaim; rw [if_neg (by rw [hlf]; decide)])
  | true =>
    have hic : isc A c = true := by unfold mleft at hlf; rw [Bool.and_eq_true] at hlf; exact hlf.1
    obtain ⟨rfl, hj⟩ := hc hic
    obtain ⟨rfl, hq2, ho, ho2⟩ := hk hlf
    refine xV.br rfl (fun h1 => absurd h1 (by decide)) (fun h1 => ?_)
    refine xV.step rfl ?_
    refine xV.step rfl ?_
    refine xV.step rfl ?_
    refine xV.step rfl ?_
    refine xV.step rfl ?_
    refine xV.step rfl ?_
    refine xV.step rfl ?_
    show xV D N0 mM_claim (d + 3) 31 [some (.ref m), some (.int (nI j)), some (.int (nI q)), some (.long s), none, some (.long (lk s)), none, some (.int (xB true)), some (.int (64 * nI j + nI q))] _ _ _
    repeat' refine xV.step rfl ?_
    refine xV.br rfl (fun h2 => absurd h2 (by decide)) (fun h2 => ?_)
    repeat' first
      | refine xV.step rfl ?_
      | refine xV.mget rfl rfl ?_
      | refine xV.mj' (n := 512) (j := 64 * j + q) rfl rfl rfl (xn_ix j q) (by omega) ?_
    refine xV.br rfl (fun h3 => ?_) (fun h3 => ?_)
    case refine_2 =>
      rw [lg_cmp_eq0] at h3
      refine xV.step rfl ?_
      refine xV.step rfl ?_
      exact tl 2 _ rfl (Or.inr (Or.inl rfl)) (by unfold tClaim; rw [if_pos hlf, if_pos h3])
    rw [lg_cmp_eq0] at h3
    have thr : (A.2.1 8 j ≠ 1 ∨ mmay A j = true ∨ A.2.1 17 (64 * j + q) ≤ A.1 6 ∨ mhas A K (lk s) = false) → ∀ LV : XL, xnth LV 0 = some (.ref m) → xV D N0 mM_claim (d + 3) 99 LV [.ref m] (hm m A h) (xTw (tClaim A (nI j) (nI q) s j q K) (.returned (some (.int 0))) (hm m (mF A 0 (tClaim A (nI j) (nI q) s j q K)) h) (.returned (some (.int ((mclaim A j q o K s).2.1 1 o)))) (hm m (mclaim A j q o K s) h)) := fun hz LV hLV => by
      refine xV.step rfl ?_
      refine xV.step rfl ?_
      exact tl 3 _ hLV (Or.inr (Or.inr rfl)) (by unfold tClaim; rw [if_pos hlf, if_neg (fun z => z h3), if_pos hz])
    repeat' first
      | refine xV.step rfl ?_
      | refine xV.mget rfl rfl ?_
      | refine xV.mi (j := j) rfl rfl rfl hj ?_
    refine xV.br rfl (fun h4 => ?_) (fun h4 => thr (Or.inl h4) _ rfl)
    repeat' refine xV.step rfl ?_
    refine xV.cM rfl rfl g_mM_claim_273 mM_mayPunish_ok (Nat.le_of_ble_eq_true rfl) (Nat.le_of_ble_eq_true rfl) (c_M_mayPunish hj) ?_
    refine xV.br rfl (fun h5 => ?_) (fun h5 => thr (Or.inr (Or.inl (xB_t h5))) _ rfl)
    repeat' first
      | refine xV.step rfl ?_
      | refine xV.mget rfl rfl ?_
      | refine xV.mi' (n := 512) (j := 64 * j + q) rfl rfl rfl (xn_ix j q) (by omega) ?_
    refine xV.br rfl (fun h6 => thr (Or.inr (Or.inr (Or.inl h6))) _ rfl) (fun h6 => ?_)
    repeat' refine xV.step rfl ?_
    refine xV.cM rfl rfl g_mM_claim_166 mM_hasRoom_ok (Nat.le_of_ble_eq_true rfl) (Nat.le_of_ble_eq_true rfl) (c_M_hasRoom hK hK2) ?_
    refine xV.br rfl (fun h7 => thr (Or.inr (Or.inr (Or.inr (xB_f h7)))) _ rfl) (fun h7 => ?_)
    have hT : tClaim A (nI j) (nI q) s j q K = 0 := by
      unfold tClaim
      rw [if_pos hlf, if_neg (fun z => z h3), if_neg]
      rintro (z | z | z | z)
      · exact z h4
      · rw [xB_f h5] at z; cases z
      · exact h6 z
      · rw [xB_t h7] at z; cases z
    refine xV.step rfl ?_
    refine xV.mput rfl rfl rfl (Nat.le_of_ble_eq_true rfl) ?_
    repeat' refine xV.step rfl ?_
    refine xV.mget (v := .int 0) rfl rfl ?_
    refine xV.br rfl (fun h9 => ?_) (fun h9 => absurd (by decide) h9)
    repeat' refine xV.step rfl ?_
    refine xV.cM rfl rfl g_mM_claim_170 mM_learn_ok (Nat.le_of_ble_eq_true rfl) (Nat.le_of_ble_eq_true rfl) (c_M_learn (A := mF A 0 0) (K := K) hK hK2 (xB_t h7)) ?_
    repeat' first
      | refine xV.step rfl ?_
      | refine xV.mget rfl rfl ?_
      | refine xV.mi' (n := 512) (j := 64 * j + q) rfl rfl rfl (xn_ix j q) (by omega) ?_
    refine xV.cM rfl rfl g_mM_claim_283 mM_goes_ok (Nat.le_of_ble_eq_true rfl) (Nat.le_of_ble_eq_true rfl) (c_M_goes hj hq2 (by rw [mlearn_node, mlearn_pay]; exact ho) ho2) ?_
    exact xV.iret rfl rfl rfl (Or.inr ⟨hT, rfl, rfl⟩)
end X28
