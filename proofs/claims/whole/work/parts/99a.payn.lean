/- Part 99a: class and model side by side: a new payment. -/
/-- what the found route is made of -/
def amt1 (S : CS) (B : SP) : Prop := ∀ e, e ∈ B → e.1 < kC S ∧ (e.2.1 = nI (kw S e.1 0) ∨ e.2.1 = nI (kw S e.1 1)) ∧ 1 ≤ e.2.2.toInt
theorem amt1_go {S : CS} {A : MS} (C : Cpl S A) {fr to : Int32} : ∀ (k : Nat) (a ps : Int32) (T B : SP), 1 ≤ a.toInt → pmask ps (svis to T) → amt1 S T → amt1 S B → amt1 S (cgo S fr k (shd to T) a ps T B)
  | 0, _, _, _, _, _, _, _, hB => hB
  | k + 1, a, ps, T, B, h0, hm, hT, hB => by
    unfold cgo
    refine sloop_ind (C := kC S) (amt1 S) (fun i B' hi hB' => ?_) _ 0 B (Nat.le_of_eq (Nat.zero_add _)) hB
    obtain ⟨e1, e2⟩ := ok_eq C hi (a := a) hm
    unfold cone
    by_cases h : cokb S (shd to T) a ps i = true
    · rw [if_pos h]
      obtain ⟨ha, p, hp, p1, p2⟩ := e2 h
      have hT' : amt1 S ((i, cpay S i (shd to T), a.toInt64) :: T) := by
        intro e he
        rcases List.mem_cons.mp he with z | z
        · subst z
          refine ⟨hi, ?_, by rw [Int32.toInt_toInt64]; exact h0⟩
          show cpay S i (shd to T) = _ ∨ _
          unfold cpay
          split
          · exact Or.inr rfl
          · exact Or.inl rfl
        · exact hT e z
      split
      · split
        · exact hT'
        · exact hB'
      · obtain ⟨f1, f2, f3⟩ := fee_eq C hp (by omega) ha
        rw [p1] at hT' ⊢
        exact amt1_go C k _ _ ((i, nI p, a.toInt64) :: T) B' (by omega) (hm.cons hp) hT' hB'
    · rw [if_neg h]
      exact hB'
theorem amt1_res {S : CS} {A : MS} (C : Cpl S A) {fr to am : Int32} (ht : nd to = true) (ha : 1 ≤ am.toInt) : amt1 S (cres S fr to am) := by
  unfold cres
  obtain ⟨t1, t2⟩ := nd_of ht
  refine amt1_go C 5 am _ [] [] ha ?_ (fun e he => by cases he) (fun e he => by cases he)
  show pmask _ [to]
  rw [t1]
  exact pmask.one t2
theorem list_at {B : SP} : ∀ {i : Nat}, i < B.length → ∃ X e T, B = X ++ e :: T ∧ X.length = i := by
  induction B with
  | nil => intro i h; exact absurd h (Nat.not_lt_zero i)
  | cons b B ih =>
    intro i h
    cases i with
    | zero => exact ⟨[], b, B, rfl, rfl⟩
    | succ i =>
      obtain ⟨X, e, T, h1, h2⟩ := ih (Nat.lt_of_succ_lt_succ h)
      exact ⟨b :: X, e, T, by rw [h1]; rfl, by rw [List.length_cons, h2]⟩
theorem RepY.suf {c p m : Nat → Int32} {T : SP} : ∀ {X : SP}, RepY c p m (X ++ T) → RepY c p m T
  | [], h => h
  | _ :: X, h => RepY.suf (X := X) h.2.2.2.2
theorem len_app (X : SP) (e : Nat × Int32 × Int64) (T : SP) : (X ++ e :: T).length = X.length + T.length + 1 := by
  rw [List.length_append, List.length_cons]
  omega
/-- the model's route of a payment, place by place -/
theorem pwA_at {P N : Nat} {dd : Int32} {A : MS} {e : Nat × Int32 × Int64} {T : SP} : ∀ {X : SP}, (X ++ e :: T).length ≤ N → (pwA P N dd A (X ++ e :: T)).2.1 37 (5 * P + (N - 1 - T.length)) = nI e.1 ∧ (pwA P N dd A (X ++ e :: T)).2.1 38 (5 * P + (N - 1 - T.length)) = e.2.2.toInt32 ∧ (pwA P N dd A (X ++ e :: T)).2.1 39 (5 * P + (N - 1 - T.length)) = pdl A dd T ∧ (pwA P N dd A (X ++ e :: T)).2.1 41 (5 * P + (N - 1 - T.length)) = e.2.1
  | [], _ => by
    show (mI (mI (mI (mI (pwA P N dd A T) 37 (5 * P + (N - 1 - T.length)) (nI e.1)) 38 (5 * P + (N - 1 - T.length)) e.2.2.toInt32) 39 (5 * P + (N - 1 - T.length)) (pdl A dd T)) 41 (5 * P + (N - 1 - T.length)) e.2.1).2.1 37 _ = _ ∧ (mI (mI (mI (mI (pwA P N dd A T) 37 (5 * P + (N - 1 - T.length)) (nI e.1)) 38 (5 * P + (N - 1 - T.length)) e.2.2.toInt32) 39 (5 * P + (N - 1 - T.length)) (pdl A dd T)) 41 (5 * P + (N - 1 - T.length)) e.2.1).2.1 38 _ = _ ∧ (mI (mI (mI (mI (pwA P N dd A T) 37 (5 * P + (N - 1 - T.length)) (nI e.1)) 38 (5 * P + (N - 1 - T.length)) e.2.2.toInt32) 39 (5 * P + (N - 1 - T.length)) (pdl A dd T)) 41 (5 * P + (N - 1 - T.length)) e.2.1).2.1 39 _ = _ ∧ (mI (mI (mI (mI (pwA P N dd A T) 37 (5 * P + (N - 1 - T.length)) (nI e.1)) 38 (5 * P + (N - 1 - T.length)) e.2.2.toInt32) 39 (5 * P + (N - 1 - T.length)) (pdl A dd T)) 41 (5 * P + (N - 1 - T.length)) e.2.1).2.1 41 _ = _
    refine ⟨?_, ?_, ?_, ?_⟩
    · simp [mI_i]
    · simp [mI_i]
    · simp [mI_i]
    · simp [mI_i]
  | x :: X, h => by
    have hl := len_app X e T
    have h' : (X ++ e :: T).length + 1 ≤ N := h
    obtain ⟨a1, a2, a3, a4⟩ := pwA_at (P := P) (N := N) (dd := dd) (A := A) (e := e) (T := T) (X := X) (by omega)
    have ne : 5 * P + (N - 1 - T.length) ≠ 5 * P + (N - 1 - (X ++ e :: T).length) := by omega
    show (mI (mI (mI (mI (pwA P N dd A (X ++ e :: T)) 37 (5 * P + (N - 1 - (X ++ e :: T).length)) (nI x.1)) 38 (5 * P + (N - 1 - (X ++ e :: T).length)) x.2.2.toInt32) 39 (5 * P + (N - 1 - (X ++ e :: T).length)) (pdl A dd (X ++ e :: T))) 41 (5 * P + (N - 1 - (X ++ e :: T).length)) x.2.1).2.1 37 _ = _ ∧ (mI (mI (mI (mI (pwA P N dd A (X ++ e :: T)) 37 (5 * P + (N - 1 - (X ++ e :: T).length)) (nI x.1)) 38 (5 * P + (N - 1 - (X ++ e :: T).length)) x.2.2.toInt32) 39 (5 * P + (N - 1 - (X ++ e :: T).length)) (pdl A dd (X ++ e :: T))) 41 (5 * P + (N - 1 - (X ++ e :: T).length)) x.2.1).2.1 38 _ = _ ∧ (mI (mI (mI (mI (pwA P N dd A (X ++ e :: T)) 37 (5 * P + (N - 1 - (X ++ e :: T).length)) (nI x.1)) 38 (5 * P + (N - 1 - (X ++ e :: T).length)) x.2.2.toInt32) 39 (5 * P + (N - 1 - (X ++ e :: T).length)) (pdl A dd (X ++ e :: T))) 41 (5 * P + (N - 1 - (X ++ e :: T).length)) x.2.1).2.1 39 _ = _ ∧ (mI (mI (mI (mI (pwA P N dd A (X ++ e :: T)) 37 (5 * P + (N - 1 - (X ++ e :: T).length)) (nI x.1)) 38 (5 * P + (N - 1 - (X ++ e :: T).length)) x.2.2.toInt32) 39 (5 * P + (N - 1 - (X ++ e :: T).length)) (pdl A dd (X ++ e :: T))) 41 (5 * P + (N - 1 - (X ++ e :: T).length)) x.2.1).2.1 41 _ = _
    simp only [mI_i, ne, and_false, if_false]
    exact ⟨a1, a2, a3, a4⟩
/-- what the model's route of a payment leaves -/
theorem pwA_fr {P N : Nat} {dd : Int32} {A : MS} : ∀ (B : SP), B.length ≤ N → (pwA P N dd A B).1 = A.1 ∧ (pwA P N dd A B).2.2 = A.2.2 ∧ (∀ k, k < 37 → (pwA P N dd A B).2.1 k = A.2.1 k) ∧ (pwA P N dd A B).2.1 40 = A.2.1 40 ∧ ∀ k i, (i < 5 * P ∨ 5 * P + N ≤ i) → (pwA P N dd A B).2.1 k i = A.2.1 k i
  | [], _ => ⟨rfl, rfl, fun _ _ => rfl, rfl, fun _ _ _ => rfl⟩
  | x :: T, h => by
    have h' : T.length + 1 ≤ N := h
    obtain ⟨a1, a2, a3, a4, a5⟩ := pwA_fr (P := P) (N := N) (dd := dd) (A := A) T (by omega)
    unfold pwA
    refine ⟨a1, a2, fun k hk => ?_, ?_, fun k i hi => ?_⟩
    · funext i
      rw [mI_i, if_neg (by omega), mI_i, if_neg (by omega), mI_i, if_neg (by omega), mI_i, if_neg (by omega), a3 k hk]
    · funext i
      rw [mI_i, if_neg (by omega), mI_i, if_neg (by omega), mI_i, if_neg (by omega), mI_i, if_neg (by omega), a4]
    · have ne : i ≠ 5 * P + (N - 1 - T.length) := by omega
      rw [mI_i, if_neg (fun z => ne z.2), mI_i, if_neg (fun z => ne z.2), mI_i, if_neg (fun z => ne z.2), mI_i, if_neg (fun z => ne z.2), a5 k i hi]
/-- deadlines -/
theorem fdu_eq {A : MS} {c p m : Nat → Int32} {dl : Int32} {L : Nat} : ∀ {T : SP}, RepY c p m T → T.length ≤ L → fdu (A.2.1 4) (rv p L L) dl L T.length = pdl A dl T
  | [], _, _ => rfl
  | e :: T, h, hl => by
    have hl' : T.length + 1 ≤ L := hl
    show fdu (A.2.1 4) (rv p L L) dl L T.length + A.2.1 4 (rv p L L (L - 1 - T.length)).toNatClampNeg = pdl A dl T + A.2.1 4 e.2.1.toNatClampNeg
    rw [fdu_eq h.2.2.2.2 (by omega), rv_lt (by omega), show L - 1 - (L - 1 - T.length) = T.length by omega, h.2.2.1]
theorem fdc_at {de pf : Nat → Int32} {dl : Int32} {L i : Nat} (hi : i < L) : ∀ m, m ≤ L → L - 1 - i < m → fdc de pf dl L m i = fdu de pf dl L (L - 1 - i)
  | 0, _, h => absurd h (Nat.not_lt_zero _)
  | m + 1, hm, h => by
    unfold fdc upd
    by_cases e : i = L - 1 - m
    · rw [if_pos e, show L - 1 - i = m by omega]
    · rw [if_neg e]
      exact fdc_at hi m (by omega) (by omega)
