/- Part 34: the model: grow. -/
def g1 (o : Nat → Nat) (p : MS × Int32) (j : Nat) : MS × Int32 := if mmay p.1 j = true ∧ p.1.2.1 5 (o j) ≠ 0 then (mpun p.1 j (o j), p.2 + 1) else p
def gin (o : Nat → Nat) (p : MS × Int32) (j : Nat) : Nat → MS × Int32
  | 0 => p
  | n + 1 => gin o (g1 o p j) (j + 1) n
def gout (o : Nat → Nat) (C : Nat) (p : MS × Int32) : Nat → MS × Int32
  | 0 => p
  | n + 1 => gout o C (gin o (mF p.1 6 (p.1.1 6 + 1), p.2) 0 C) n
theorem g1_F (o : Nat → Nat) (p : MS × Int32) (j : Nat) : (g1 o p j).1.1 = p.1.1 := by unfold g1; split <;> rfl
theorem g1_m (o : Nat → Nat) (p : MS × Int32) (j x : Nat) : moth (g1 o p j).1 x = moth p.1 x := by unfold g1; split <;> rfl
theorem gin_F (o : Nat → Nat) : ∀ n (p : MS × Int32) (j : Nat), (gin o p j n).1.1 = p.1.1
  | 0, _, _ => rfl
  | n + 1, p, j => by rw [gin, gin_F o n, g1_F]
theorem gin_m (o : Nat → Nat) (x : Nat) : ∀ n (p : MS × Int32) (j : Nat), moth (gin o p j n).1 x = moth p.1 x
  | 0, _, _ => rfl
  | n + 1, p, j => by rw [gin, gin_m o x n, g1_m]
def tGrow (n : Int32) : Int32 := if 0 ≤ n ∧ n ≤ 1000 then 0 else 1
section X34
variable {D : va_G} {N0 : Nat} {d m : Nat} {h : XH}
theorem c_M_grow_in {o : Nat → Nat} {C : Nat} (hC2 : C ≤ 8) {N i : Int32} {Q : Outcome → XH → Prop} : ∀ n j (A : MS) (c : Int32), j + n = C → A.1 7 = nI C → (∀ j, j < C → moth A j = nI (o j) ∧ o j < 6) →
    xV D N0 mM_grow (d + 3) 96 [some (.ref m), some (.int N), some (.int (gin o (A, c) j n).2), some (.int i), some (.int (nI C))] [] (hm m (gin o (A, c) j n).1 h) Q →
    xV D N0 mM_grow (d + 3) 49 [some (.ref m), some (.int N), some (.int c), some (.int i), some (.int (nI j))] [] (hm m A h) Q := by
  intro n
  induction n with
  | zero =>
    intro j A c hj hC ho k
    obtain rfl : j = C := by omega
    repeat' refine xV.step rfl ?_
    refine xV.mget rfl rfl ?_
    rw [hC]
    refine xV.br rfl (fun h1 => k) (fun h1 => ?_)
    rw [xn_le (by omega) (by omega)] at h1
    omega
  | succ n ih =>
    intro j A c hj hC ho k
    repeat' refine xV.step rfl ?_
    refine xV.mget rfl rfl ?_
    rw [hC]
    refine xV.br rfl (fun h1 => ?_) (fun h1 => ?_)
    · rw [xn_le (by omega) (by omega)] at h1
      omega
    obtain ⟨hm1, hm2⟩ := ho j (by omega)
    have nxt : ∀ (A' : MS) (c' : Int32), g1 o (A, c) j = (A', c') → xV D N0 mM_grow (d + 3) 90 [some (.ref m), some (.int N), some (.int c'), some (.int i), some (.int (nI j))] [] (hm m A' h) Q := by
      intro A' c' e
      have e1 := g1_F o (A, c) j
      have e2 := g1_m o (A, c) j
      rw [e] at e1 e2
      refine xV.step rfl ?_
      refine xV.step rfl ?_
      show xV D N0 mM_grow (d + 3) 49 [some (.ref m), some (.int N), some (.int c'), some (.int i), some (.int (nI j + 1))] [] _ _
      rw [xn_succ]
      refine ih (j + 1) A' c' (by omega) (by rw [e1]; exact hC) (fun x hx => by rw [e2]; exact ho x hx) ?_
      rw [gin, e] at k
      exact k
    repeat' refine xV.step rfl ?_
    refine xV.cM rfl rfl g_mM_grow_273 mM_mayPunish_ok (Nat.le_of_ble_eq_true rfl) (Nat.le_of_ble_eq_true rfl) (c_M_mayPunish (by omega)) ?_
    refine xV.br rfl (fun h2 => ?_) (fun h2 => ?_)
    · exact nxt A c (by unfold g1; rw [if_neg]; exact fun z => by rw [show mmay A j = true from z.1] at h2; exact absurd h2 (by decide))
    repeat' first
      | refine xV.step rfl ?_
      | refine xV.mget rfl rfl ?_
    refine xV.cM rfl rfl g_mM_grow_270 mM_other_ok (Nat.le_of_ble_eq_true rfl) (Nat.le_of_ble_eq_true rfl) (c_M_other (by omega)) ?_
    rw [hm1]
    refine xV.mz (n := 6) rfl rfl rfl hm2 ?_
    refine xV.br rfl (fun h3 => ?_) (fun h3 => ?_)
    · exact nxt A c (by unfold g1; rw [if_neg]; exact fun z => z.2 h3)
    repeat' refine xV.step rfl ?_
    refine xV.cM rfl rfl g_mM_grow_276 mM_punished_ok (Nat.le_of_ble_eq_true rfl) (Nat.le_of_ble_eq_true rfl) (c_M_punished (by omega) hm1 hm2) ?_
    refine xV.step rfl ?_
    exact nxt (mpun A j (o j)) (c + 1) (by unfold g1; rw [if_pos]; exact ⟨xB_t h2, h3⟩)
theorem c_M_grow_out {o : Nat → Nat} {C N : Nat} (hC2 : C ≤ 8) (hN : N ≤ 1000) : ∀ n i (A : MS) (c : Int32) (x : Option Value), i + n = N → A.1 7 = nI C → A.1 0 = 0 → (∀ j, j < C → moth A j = nI (o j) ∧ o j < 6) →
    xV D N0 mM_grow (d + 3) 24 [some (.ref m), some (.int (nI N)), some (.int c), some (.int (nI i)), x] [] (hm m A h) (xEq (.returned (some (.int (gout o C (A, c) n).2))) (hm m (gout o C (A, c) n).1 h)) := by
  intro n
  induction n with
  | zero =>
    intro i A c x hi hC h0 ho
    obtain rfl : i = N := by omega
    repeat' refine xV.step rfl ?_
    refine xV.br rfl (fun h1 => ?_) (fun h1 => ?_)
    · repeat' refine xV.step rfl ?_
      exact xV.iret rfl rfl rfl ⟨rfl, rfl⟩
    · rw [xn_le (by omega) (by omega)] at h1
      omega
  | succ n ih =>
    intro i A c x hi hC h0 ho
    repeat' refine xV.step rfl ?_
    refine xV.br rfl (fun h1 => ?_) (fun h1 => ?_)
    · rw [xn_le (by omega) (by omega)] at h1
      omega
    repeat' refine xV.step rfl ?_
    refine xV.mget rfl rfl ?_
    rw [h0]
    refine xV.br rfl (fun h2 => ?_) (fun h2 => absurd rfl h2)
    refine xV.step rfl ?_
    refine xV.step rfl ?_
    refine xV.mget rfl rfl ?_
    refine xV.step rfl ?_
    refine xV.step rfl ?_
    refine xV.mput rfl rfl rfl (Nat.le_of_ble_eq_true rfl) ?_
    refine xV.step rfl ?_
    refine xV.step rfl ?_
    refine c_M_grow_in hC2 C 0 (mF A 6 (A.1 6 + 1)) c (by omega) hC ho ?_
    refine xV.step rfl ?_
    refine xV.step rfl ?_
    show xV D N0 mM_grow (d + 3) 24 [some (.ref m), some (.int (nI N)), some (.int (gin o (mF A 6 (A.1 6 + 1), c) 0 C).2), some (.int (nI i + 1)), some (.int (nI C))] [] _ _
    rw [xn_succ]
    refine ih (i + 1) _ _ _ (by omega) ?_ ?_ (fun x hx => ?_)
    · rw [gin_F]; exact hC
    · rw [gin_F]; exact h0
    · rw [gin_m]; exact ho x hx
theorem c_M_grow {A : MS} {o : Nat → Nat} {C N : Nat} (hC2 : C ≤ 8) {v : Int32} (hC : A.1 7 = nI C) (ho : ∀ j, j < C → moth A j = nI (o j) ∧ o j < 6) (hv : tGrow v = 0 → v = nI N ∧ N ≤ 1000) :
    xV D N0 mM_grow (d + 3) 0 (xargs 5 [.ref m, .int v]) [] (hm m A h) (xTw (tGrow v) (.returned (some (.int 0))) (hm m (mF A 0 (tGrow v)) h) (.returned (some (.int (gout o C (mF A 0 0, 0) N).2))) (hm m (gout o C (mF A 0 0, 0) N).1 h)) := by
  repeat' refine xV.step rfl ?_
  refine xV.cS rfl rfl g_mM_grow_140 mM_isIn_ok (Nat.le_of_ble_eq_true rfl) (Nat.le_of_ble_eq_true rfl) c_M_isIn ?_
  refine xV.br rfl (fun h1 => ?_) (fun h1 => ?_)
  · have hT : tGrow v = 1 := by unfold tGrow; rw [if_neg (of_decide_eq_false (xB_f h1))]
    have en : ∀ st : XL, xV D N0 mM_grow (d + 3) 102 (some (.ref m) :: some (.int v) :: some (.int 0) :: st) [] (hm m (mF A 0 1) h) (xTw (tGrow v) (.returned (some (.int 0))) (hm m (mF A 0 (tGrow v)) h) (.returned (some (.int (gout o C (mF A 0 0, 0) N).2))) (hm m (gout o C (mF A 0 0, 0) N).1 h)) := fun st => by
      refine xV.step rfl ?_
      exact xV.iret rfl rfl rfl (Or.inl ⟨by rw [hT]; decide, rfl, by rw [hT]⟩)
    repeat' first
      | refine xV.step rfl ?_
      | refine xV.mput rfl rfl rfl (Nat.le_of_ble_eq_true rfl) ?_
    refine xV.br rfl (fun h2 => en _) (fun h2 => ?_)
    repeat' refine xV.step rfl ?_
    refine xV.mget (v := .int 1) rfl rfl ?_
    exact xV.br rfl (fun h2 => absurd h2 (by decide)) (fun h2 => en _)
  · have hT : tGrow v = 0 := by unfold tGrow; rw [if_pos (of_decide_eq_true (xB_t h1))]
    obtain ⟨rfl, hN⟩ := hv hT
    have key := c_M_grow_out (D := D) (N0 := N0) (d := d) (m := m) (h := h) (o := o) hC2 hN N 0 (mF A 0 0) 0 none (by omega) hC rfl ho
    refine xV.step rfl ?_
    refine xV.step rfl ?_
    refine xV.mput rfl rfl rfl (Nat.le_of_ble_eq_true rfl) ?_
    refine xV.step rfl ?_
    refine xV.step rfl ?_
    refine xV.step rfl ?_
    refine xV.step rfl ?_
    exact xV.mono (fun o u hz => Or.inr ⟨hT, hz.1, hz.2⟩) key
end X34
