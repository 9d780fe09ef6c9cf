/- Part 37: the model's search. -/
def sOK (A : MS) (L : Nat → Nat) (C : Nat) : Prop := A.1 7 = nI C ∧ C ≤ 8 ∧ (∀ i, i < C → A.2.1 9 i = nI (L i) ∧ L i < 64) ∧ (∀ i, i < C → ∃ f s, f < 6 ∧ s < 6 ∧ A.2.1 6 i = nI f ∧ A.2.1 7 i = nI s) ∧ (∀ p, p < 6 → 0 ≤ (A.2.1 2 p).toInt ∧ 0 ≤ (A.2.1 3 p).toInt ∧ (A.2.1 3 p).toInt ≤ 1000000)
theorem spay_nat {A : MS} {L : Nat → Nat} {C i : Nat} (hA : sOK A L C) (hi : i < C) (x : Int32) : ∃ p, p < 6 ∧ spay A i x = nI p := by
  obtain ⟨f, s, hf, hs, e1, e2⟩ := hA.2.2.2.1 i hi
  unfold spay mnode
  split
  · exact ⟨f, hf, e1⟩
  · exact ⟨s, hs, e2⟩
theorem xn_flip {s : Nat} (hs : s < 2) : 1 - nI s = nI (1 - s) := by
  rw [show (1 : Int32) = nI 1 from rfl, xn_sub (by omega)]
section X37
variable {D : va_G} {N0 : Nat} {d m : Nat} {h : XH} {A : MS} {L : Nat → Nat} {C : Nat} {fr to am : Int32}
def sK (D : va_G) (N0 d m : Nat) (h : XH) (A : MS) (L : Nat → Nat) (C : Nat) (fr to am : Int32) (k : Nat) : Prop :=
  ∀ (n : Nat) (T : SP) (a : Int64) (i : Nat) (A' : MS) (B : SP) (Q : Outcome → XH → Prop) (l5 l6 l7 l8 l9 l10 : Option Value), T.length + k + 1 = 5 → i + n = C → sSame A A' → RepT (A'.2.1 26) (A'.2.2 27) (A'.2.1 28) to T → A'.2.2 27 T.length = a → 0 ≤ a.toInt → A'.2.1 26 T.length + 1 = nI i → RepB A'.1 (A'.2.1 25) B →
    (∀ (A2 : MS) (l5 l6 l7 l8 l9 l10 : Option Value), sSame A A2 → RepT (A2.2.1 26) (A2.2.2 27) (A2.2.1 28) to T → RepB A2.1 (A2.2.1 25) (sloop (sone (sgo A L C fr to k) A L fr to a T) i n B) →
      xV D N0 mM_search (d + 3) 35 [some (.ref m), some (.int fr), some (.int to), some (.int am), some (.int (nI T.length + (-1))), l5, l6, l7, l8, l9, l10] [] (hm m A2 h) Q) →
    xV D N0 mM_search (d + 3) 35 [some (.ref m), some (.int fr), some (.int to), some (.int am), some (.int (nI T.length)), l5, l6, l7, l8, l9, l10] [] (hm m A' h) Q
theorem sK_step (hA : sOK A L C) (k : Nat) (hk : ∀ k', k = k' + 1 → sK D N0 d m h A L C fr to am k') : sK D N0 d m h A L C fr to am k := by
  intro n
  induction n with
  | zero =>
    intro T a i A' B Q l5 l6 l7 l8 l9 l10 hT hi hs hR ha ha0 hw hB K
    obtain rfl : i = C := by omega
    have hC : A'.1 7 = nI i := by rw [hs.1 7 (by omega) (by omega)]; exact hA.1
    have hC2 := hA.2.1
    refine xV.step rfl ?_
    refine xV.br rfl (fun h1 => absurd h1 (xn_nonneg (by omega))) (fun h1 => ?_)
    refine xV.step rfl ?_
    refine xV.mget rfl rfl ?_
    refine xV.step rfl ?_
    refine xV.mi (n := 6) (j := T.length) rfl rfl rfl (by omega) ?_
    repeat' first
      | refine xV.step rfl ?_
      | refine xV.mget rfl rfl ?_
    refine xV.mi (n := 5) (j := T.length) rfl rfl rfl (by omega) ?_
    refine xV.step rfl ?_
    refine xV.step rfl ?_
    rw [hw]
    refine xV.si (n := 5) (j := T.length) rfl rfl rfl rfl (by omega) ?_
    repeat' first
      | refine xV.step rfl ?_
      | refine xV.mget rfl rfl ?_
    refine xV.mi (n := 5) (j := T.length) rfl rfl rfl (by omega) ?_
    rw [mI_self]
    repeat' first
      | refine xV.step rfl ?_
      | refine xV.mget rfl rfl ?_
    rw [show (mI A' 26 T.length (nI i)).1 7 = nI i from hC]
    refine xV.br rfl (fun h2 => ?_) (fun h2 => ?_)
    · rw [xn_lt (by omega) (by omega)] at h2
      omega
    refine xV.step rfl ?_
    refine xV.step rfl ?_
    refine K (mI A' 26 T.length (nI i)) _ _ _ _ _ _ (hs.i (by omega)) (hR.congr (fun j hj => ⟨mI_ne (by omega), rfl⟩) (fun _ _ => rfl)) hB
  | succ n ih =>
    intro T a i A' B Q l5 l6 l7 l8 l9 l10 hT hi hs hR ha ha0 hw hB K
    have hC : A'.1 7 = nI C := by rw [hs.1 7 (by omega) (by omega)]; exact hA.1
    have hC2 := hA.2.1
    have hiC : i < C := by omega
    have hx := hR.hd
    have hs1 : sSame A (mI A' 26 T.length (nI i)) := hs.i (by omega)
    have hR1 : RepT ((mI A' 26 T.length (nI i)).2.1 26) (A'.2.2 27) (A'.2.1 28) to T := hR.congr (fun j hj => ⟨mI_ne (by omega), rfl⟩) (fun _ _ => rfl)
    refine xV.step rfl ?_
    refine xV.br rfl (fun h1 => absurd h1 (xn_nonneg (by omega))) (fun h1 => ?_)
    refine xV.step rfl ?_
    refine xV.mget rfl rfl ?_
    refine xV.step rfl ?_
    refine xV.mi (n := 6) (j := T.length) rfl rfl rfl (by omega) ?_
    rw [hx]
    repeat' first
      | refine xV.step rfl ?_
      | refine xV.mget rfl rfl ?_
    refine xV.mi (n := 5) (j := T.length) rfl rfl rfl (by omega) ?_
    refine xV.step rfl ?_
    refine xV.step rfl ?_
    rw [hw]
    refine xV.si (n := 5) (j := T.length) rfl rfl rfl rfl (by omega) ?_
    repeat' first
      | refine xV.step rfl ?_
      | refine xV.mget rfl rfl ?_
    refine xV.mi (n := 5) (j := T.length) rfl rfl rfl (by omega) ?_
    rw [mI_self]
    repeat' first
      | refine xV.step rfl ?_
      | refine xV.mget rfl rfl ?_
    rw [show (mI A' 26 T.length (nI i)).1 7 = nI C from hC]
    refine xV.br rfl (fun h2 => ?_) (fun h2 => ?_)
    case refine_2 =>
      rw [xn_lt (by omega) (by omega)] at h2
      omega
    generalize hA1 : mI A' 26 T.length (nI i) = A1 at *
    have hB1 : RepB A1.1 (A1.2.1 25) B := by rw [← hA1]; exact hB
    have ha1 : A1.2.2 27 T.length = a := by rw [← hA1]; exact ha
    have hw1 : A1.2.1 26 T.length = nI i := by rw [← hA1, mI_self]
    have hR2 : RepT (A1.2.1 26) (A1.2.2 27) (A1.2.1 28) to T := by rw [← hA1] at hR1 ⊢; exact hR1
    clear hR1 hB hw hR hA1 hs hC
    obtain ⟨hl1, hl2⟩ := hA.2.2.1 i hiC
    have hl1' : A1.2.1 9 i = nI (L i) := by rw [hs1.2.1 9 (by omega) (by omega) (by omega)]; exact hl1
    have back : ∀ (A2 : MS) (x : Int32) (l6 l7 l8 l9 l10 : Option Value), sSame A A2 → RepT (A2.2.1 26) (A2.2.2 27) (A2.2.1 28) to T → A2.2.2 27 T.length = a → A2.2.1 26 T.length = nI i → RepB A2.1 (A2.2.1 25) (sone (sgo A L C fr to k) A L fr to a T i B) →
        xV D N0 mM_search (d + 3) 35 [some (.ref m), some (.int fr), some (.int to), some (.int am), some (.int (nI T.length)), some (.int x), l6, l7, l8, l9, l10] [] (hm m A2 h) Q := by
      intro A2 x l6 l7 l8 l9 l10 c1 c2 c3 c4 c5
      exact ih T a (i + 1) A2 (sone (sgo A L C fr to k) A L fr to a T i B) Q _ _ _ _ _ _ hT (by omega) c1 c2 c3 ha0 (by rw [c4, xn_succ]) c5 K
    have aft : ∀ (y p : Int32) (b : Bool) (l10 : Option Value), (b = true → p = spay A i (shd to T) ∧ mcarr A i (L i) (1 - msd A i (shd to T)) a = true) → sokb A L to a T i = (b && snot p (svis to T)) →
        xV D N0 mM_search (d + 3) 149 [some (.ref m), some (.int fr), some (.int to), some (.int am), some (.int (nI T.length)), some (.int (shd to T)), some (.int (nI i)), some (.int y), some (.int p), some (.int (xB b)), l10] [] (hm m A1 h) Q := by
      intro y p b l10 hb hok
      refine xV.step rfl ?_
      refine xV.step rfl ?_
      show xV D N0 mM_search (d + 3) 152 [some (.ref m), some (.int fr), some (.int to), some (.int am), some (.int (nI T.length)), some (.int (shd to T)), some (.int (nI i)), some (.int y), some (.int p), some (.int (xB b)), some (.int (nI 0))] [] _ _
      rw [show xB b = xB (b && sfree (A1.2.1 28) p 0) by rw [sfree, Bool.and_true]]
      refine c_M_search_vis (t := T.length) (by omega) ?_ (T.length + 1) 0 (by omega)
      rw [hR2.free, ← hok]
      refine xV.step rfl ?_
      cases hk0 : sokb A L to a T i with
      | false =>
        refine xV.br rfl (fun h3 => ?_) (fun h3 => absurd rfl h3)
        refine xV.step rfl ?_
        refine xV.br rfl (fun h4 => ?_) (fun h4 => absurd rfl h4)
        refine xV.step rfl ?_
        refine back A1 _ _ _ _ _ _ hs1 hR2 ha1 hw1 ?_
        unfold sone
        rw [if_neg (by rw [hk0]; decide)]
        exact hB1
      | true =>
        have hb1 : b = true := by rw [hk0] at hok; cases b; cases hok; rfl
        obtain ⟨hp, hca⟩ := hb hb1
        subst hp
        have ha31 : a.toInt < 2 ^ 31 := by
          have hq := (of_decide_eq_true hca).2.2
          rw [Int64.lt_iff_toInt_lt, Int32.toInt_toInt64] at hq
          have := Int32.toInt_lt (A.2.1 10 (2 * (64 * i + L i) + (1 - msd A i (shd to T))))
          omega
        refine xV.br rfl (fun h3 => absurd h3 (by decide)) (fun h3 => ?_)
        refine xV.step rfl ?_
        refine xV.step rfl ?_
        refine xV.br rfl (fun h4 => ?_) (fun h4 => ?_)
        case refine_1 =>
          have h4 : spay A i (shd to T) = fr := h4
          have hW : RepW (A1.2.1 26) ((i, spay A i (shd to T), a) :: T) := ⟨hw1, by omega, hR2.w⟩
          repeat' refine xV.step rfl ?_
          rw [xn_succ]
          refine xV.cM rfl rfl g_mM_search_243 mM_isBetter_ok (Nat.le_of_ble_eq_true rfl) (Nat.le_of_ble_eq_true rfl) (c_M_isBetter (e := (i, spay A i (shd to T), a)) (T := T) (B := B) (by omega) ha1 hW hB1) ?_
          refine xV.br rfl (fun h5 => ?_) (fun h5 => ?_)
          · refine xV.step rfl ?_
            refine back A1 _ _ _ _ _ _ hs1 hR2 ha1 hw1 ?_
            unfold sone
            rw [if_pos hk0, if_pos h4, if_neg (by rw [show sbet a _ B = false from xB_f h5]; decide)]
            exact hB1
          · refine xV.step rfl ?_
            refine xV.step rfl ?_
            refine xV.step rfl ?_
            refine xV.step rfl ?_
            rw [xn_succ]
            refine xV.mput rfl rfl rfl (Nat.le_of_ble_eq_true rfl) ?_
            repeat' first
              | refine xV.step rfl ?_
              | refine xV.mget rfl rfl ?_
            refine xV.mj (n := 6) (j := T.length) rfl rfl rfl (by omega) ?_
            rw [show (mF A1 28 (nI (T.length + 1))).2.2 27 T.length = a from ha1]
            refine xV.step rfl ?_
            refine xV.mput rfl rfl rfl (Nat.le_of_ble_eq_true rfl) ?_
            refine xV.step rfl ?_
            refine xV.step rfl ?_
            refine c_M_search_copy (t := T.length) (by omega) ((i, spay A i (shd to T), a) :: T) 0 _ (by simp) hW (fun r l10 _ hr => ?_)
            refine xV.step rfl ?_
            refine xV.step rfl ?_
            refine back (mR (mF (mF A1 28 (nI (T.length + 1))) 30 a.toInt32) r) _ _ _ _ _ _ ((hs1.f (by omega)).f (by omega)).r hR2 ha1 hw1 ?_
            unfold sone
            rw [if_pos hk0, if_pos h4, if_pos (show sbet a _ B = true from xB_t h5)]
            refine ⟨?_, by simp; omega, hr, fun e B' he => ?_⟩
            · simp [mR, mF, upd]
            · cases he
              show (upd (upd A1.1 28 (nI (T.length + 1))) 30 a.toInt32 30).toInt64 = a
              rw [show upd (upd A1.1 28 (nI (T.length + 1))) 30 a.toInt32 30 = a.toInt32 by simp [upd]]
              rw [← Int64.toInt_inj, Int32.toInt_toInt64, Int64.toInt_toInt32]
              exact Int.bmod_eq_of_le (by omega) (by omega)
        have h4 : ¬ spay A i (shd to T) = fr := h4
        refine xV.step rfl ?_
        refine xV.br rfl (fun h3 => absurd h3 (by decide)) (fun h3 => ?_)
        repeat' refine xV.step rfl ?_
        rw [xn_succ]
        refine xV.br rfl (fun h5 => ?_) (fun h5 => ?_)
        · rw [show (5 : Int32) = nI 5 from rfl, xn_le (by omega) (by omega)] at h5
          obtain rfl : k = 0 := by omega
          refine xV.step rfl ?_
          refine back A1 _ _ _ _ _ _ hs1 hR2 ha1 hw1 ?_
          unfold sone
          rw [if_pos hk0, if_neg h4, sgo]
          exact hB1
        · rw [show (5 : Int32) = nI 5 from rfl, xn_le (by omega) (by omega)] at h5
          obtain ⟨k', rfl⟩ : ∃ k', k = k' + 1 := ⟨k - 1, by omega⟩
          obtain ⟨q, hq, hpq⟩ := spay_nat hA hiC (shd to T)
          repeat' first
            | refine xV.step rfl ?_
            | refine xV.mget rfl rfl ?_
          refine xV.mj (n := 6) (j := T.length) rfl rfl rfl (by omega) ?_
          repeat' first
            | refine xV.step rfl ?_
            | refine xV.mget rfl rfl ?_
          refine xV.mi' (n := 6) (j := q) rfl rfl rfl hpq hq ?_
          repeat' first
            | refine xV.step rfl ?_
            | refine xV.mget rfl rfl ?_
          refine xV.mj (n := 6) (j := T.length) rfl rfl rfl (by omega) ?_
          repeat' first
            | refine xV.step rfl ?_
            | refine xV.mget rfl rfl ?_
          refine xV.mi' (n := 6) (j := q) rfl rfl rfl hpq hq ?_
          repeat' refine xV.step rfl ?_
          refine xV.ldiv rfl (by decide) ?_
          refine xV.step rfl ?_
          have hfee : A1.2.2 27 T.length + (A1.2.1 2 q).toInt64 + A1.2.2 27 T.length * (A1.2.1 3 q).toInt64 / 1000000 = sfee A (spay A i (shd to T)) a := by
            unfold sfee
            rw [hpq, xn_clamp (by omega), ha1, hs1.2.1 2 (by omega) (by omega) (by omega), hs1.2.1 3 (by omega) (by omega) (by omega)]
          rw [hfee]
          refine xV.sj' (n := 6) (j := T.length + 1) rfl rfl rfl rfl (xn_succ _) (by omega) ?_
          repeat' first
            | refine xV.step rfl ?_
            | refine xV.mget rfl rfl ?_
          refine xV.si' (n := 6) (j := T.length + 1) rfl rfl rfl rfl (xn_succ _) (by omega) ?_
          repeat' first
            | refine xV.step rfl ?_
            | refine xV.mget rfl rfl ?_
          refine xV.si' (n := 5) (j := T.length + 1) rfl rfl rfl rfl (xn_succ _) (by omega) ?_
          refine xV.step rfl ?_
          refine xV.step rfl ?_
          show xV D N0 mM_search (d + 3) 35 [some (.ref m), some (.int fr), some (.int to), some (.int am), some (.int (nI T.length + 1)), some (.int (shd to T)), some (.int (nI i)), some (.int y), some (.int (spay A i (shd to T))), some (.int (xB true)), some (.int (nI (T.length + 1)))] [] _ _
          rw [xn_succ]
          have hfn : 0 ≤ (sfee A (spay A i (shd to T)) a).toInt := by
            obtain ⟨f1, f2, f3⟩ := hA.2.2.2.2 q hq
            refine sfee_nn ?_ ?_ ?_ ha0 ha31 <;> rw [hpq, xn_clamp (by omega)] <;> assumption
          refine hk k' rfl C ((i, spay A i (shd to T), a) :: T) (sfee A (spay A i (shd to T)) a) 0 _ B Q _ _ _ _ _ _ (by simp; omega) (by omega) ((hs1.j.i (by omega)).i (by omega)) ?_ ?_ hfn ?_ hB1 ?_
          · refine ⟨?_, by omega, ?_, ?_, ?_⟩
            · rw [mI_ne (by omega)]; exact hw1
            · show (mJ A1 27 (T.length + 1) _).2.2 27 T.length = a
              rw [mJ_ne (by omega)]; exact ha1
            · show (mI (mJ A1 27 (T.length + 1) _) 28 (T.length + 1) _).2.1 28 (T.length + 1) = _
              exact mI_self _ _ _ _
            · refine hR2.congr (fun j hj => ⟨?_, ?_⟩) (fun j hj => ?_)
              · rw [mI_ne (by omega)]; rfl
              · show (mJ A1 27 (T.length + 1) _).2.2 27 j = _
                rw [mJ_ne (by omega)]
              · show (mI (mJ A1 27 (T.length + 1) _) 28 (T.length + 1) _).2.1 28 j = _
                rw [mI_ne (by omega)]; rfl
          · show (mJ A1 27 (T.length + 1) _).2.2 27 (T.length + 1) = _
            exact mJ_self _ _ _ _
          · rw [show ((i, spay A i (shd to T), a) :: T).length = T.length + 1 from rfl, mI_self]
            rfl
          · intro A2 l5 l6 l7 l8 l9 l10 c1 c2 c3
            rw [show ((i, spay A i (shd to T), a) :: T).length = T.length + 1 from rfl, xn_dec]
            obtain ⟨e1, e2, e3, e4, e5⟩ := c2
            refine ih T a (i + 1) A2 (sone (sgo A L C fr to (k' + 1)) A L fr to a T i B) Q _ _ _ _ _ _ hT (by omega) c1 e5 e3 ha0 (by rw [e1, xn_succ]) ?_ K
            unfold sone
            rw [if_pos hk0, if_neg h4, sgo]
            exact c3
    repeat' refine xV.step rfl ?_
    refine xV.cM rfl rfl g_mM_search_199 mM_sideOf_ok (Nat.le_of_ble_eq_true rfl) (Nat.le_of_ble_eq_true rfl) (c_M_sideOf (by omega)) ?_
    rw [hs1.side]
    repeat' refine xV.step rfl ?_
    refine xV.br rfl (fun h3 => ?_) (fun h3 => ?_)
    case refine_1 =>
      have h3 : mside A i (shd to T) = -1 := h3
      repeat' refine xV.step rfl ?_
      refine xV.br rfl (fun h4 => ?_) (fun h4 => absurd rfl h4)
      refine xV.step rfl ?_
      refine xV.step rfl ?_
      refine aft (mside A i (shd to T)) (-1) false _ (fun z => by cases z) ?_
      unfold sokb
      rw [decide_eq_false (fun z => z h3)]
      rfl
    have h3 : ¬ mside A i (shd to T) = -1 := h3
    obtain ⟨q, hq, hpq⟩ := spay_nat hA hiC (shd to T)
    repeat' refine xV.step rfl ?_
    refine xV.cM rfl rfl g_mM_search_192 mM_nodeOf_ok (Nat.le_of_ble_eq_true rfl) (Nat.le_of_ble_eq_true rfl) (c_M_nodeOf (by omega)) ?_
    rw [hs1.node]
    refine xV.step rfl ?_
    show xV D N0 mM_search (d + 3) 116 [some (.ref m), some (.int fr), some (.int to), some (.int am), some (.int (nI T.length)), some (.int (shd to T)), some (.int (nI i)), some (.int (mside A i (shd to T))), some (.int (spay A i (shd to T))), l9, l10] [] _ _
    refine xV.step rfl ?_
    refine xV.step rfl ?_
    refine xV.br rfl (fun h4 => ?_) (fun h4 => ?_)
    · have h4 : spay A i (shd to T) = -1 := h4
      rw [hpq] at h4
      have h5 := (oi_none (o := some q) (fun n hn => by cases hn; omega)).mp h4
      cases h5
    repeat' first
      | refine xV.step rfl ?_
      | refine xV.mget rfl rfl ?_
    refine xV.mj (n := 6) (j := T.length) rfl rfl rfl (by omega) ?_
    have e7 : 1 - mside A i (shd to T) = nI (1 - msd A i (shd to T)) := by rw [mside_nat h3, xn_flip (msd_lt _ _ _)]
    rw [ha1, e7]
    refine xV.cM rfl rfl g_mM_search_239 mM_carries_ok (Nat.le_of_ble_eq_true rfl) (Nat.le_of_ble_eq_true rfl) (c_M_carries (s := 1 - msd A i (shd to T)) (by omega) hl1' hl2 (by omega)) ?_
    rw [hs1.carr]
    refine xV.br rfl (fun h5 => ?_) (fun h5 => ?_)
    · refine xV.step rfl ?_
      refine xV.step rfl ?_
      refine aft (mside A i (shd to T)) (spay A i (shd to T)) false _ (fun z => by cases z) ?_
      unfold sokb
      rw [xB_f h5, Bool.and_false]
    · refine xV.step rfl ?_
      refine xV.step rfl ?_
      refine xV.step rfl ?_
      refine aft (mside A i (shd to T)) (spay A i (shd to T)) true _ (fun _ => ⟨rfl, xB_t h5⟩) ?_
      unfold sokb
      rw [xB_t h5, decide_eq_true h3]
      rfl
theorem sK_all (hA : sOK A L C) : ∀ k, sK D N0 d m h A L C fr to am k
  | 0 => sK_step hA 0 (fun k' hk => by cases hk)
  | k + 1 => sK_step hA (k + 1) (fun k' hk => by cases hk; exact sK_all hA k)
def sEnd (m : Nat) (h : XH) (A : MS) (S : SP) (o0 : MS → Outcome) : Outcome → XH → Prop := fun o u => ∃ A2, sSame A A2 ∧ RepB A2.1 (A2.2.1 25) S ∧ o = o0 A2 ∧ u = hm m A2 h
def sres (A : MS) (L : Nat → Nat) (C : Nat) (fr to am : Int32) : SP := sgo A L C fr to 5 am.toInt64 [] []
theorem c_M_search (hA : sOK A L C) (ham : 0 ≤ am.toInt) : xV D N0 mM_search (d + 3) 0 (xargs 11 [.ref m, .int fr, .int to, .int am]) [] (hm m A h) (sEnd m h A (sres A L C fr to am) (fun _ => .returned none)) := by
  have key : xV D N0 mM_search (d + 3) 35 [some (.ref m), some (.int fr), some (.int to), some (.int am), some (.int (nI 0)), none, none, none, none, none, none] [] (hm m (mI (mJ (mI (mF (mF A 28 0) 30 0) 28 0 to) 27 0 am.toInt64) 26 0 (-1)) h) (sEnd m h A (sres A L C fr to am) (fun _ => .returned none)) := by
    have hs0 : sSame A A := ⟨fun _ _ _ => rfl, fun _ _ _ _ => rfl, fun _ _ => rfl⟩
    refine sK_all hA 4 C [] am.toInt64 0 _ [] _ none none none none none none rfl (by omega) ((((hs0.f (by omega)).f (by omega)).i (by omega)).j.i (by omega)) ?_ ?_ (by rw [Int32.toInt_toInt64]; exact ham) ?_ ⟨rfl, by simp, True.intro, fun e B' he => by cases he⟩ ?_
    · show (mI (mF (mF A 28 0) 30 0) 28 0 to).2.1 28 0 = to
      exact mI_self _ _ _ _
    · show (mJ (mI (mF (mF A 28 0) 30 0) 28 0 to) 27 0 am.toInt64).2.2 27 0 = _
      exact mJ_self _ _ _ _
    · show (mI (mJ (mI (mF (mF A 28 0) 30 0) 28 0 to) 27 0 am.toInt64) 26 0 (-1)).2.1 26 0 + 1 = nI 0
      rw [mI_self]
      rfl
    · intro A2 l5 l6 l7 l8 l9 l10 c1 c2 c3
      refine xV.step rfl ?_
      refine xV.br rfl (fun _ => ?_) (fun h1 => absurd (by decide) h1)
      exact xV.vret rfl rfl ⟨A2, c1, c3, rfl, rfl⟩
  repeat' first
    | exact key
    | refine xV.step rfl ?_
    | refine xV.mget rfl rfl ?_
    | refine xV.mput rfl rfl rfl (Nat.le_of_ble_eq_true rfl) ?_
    | refine xV.si' (j := 0) rfl rfl rfl rfl rfl (Nat.le_of_ble_eq_true rfl) ?_
    | refine xV.sj' (j := 0) rfl rfl rfl rfl rfl (Nat.le_of_ble_eq_true rfl) ?_
end X37
