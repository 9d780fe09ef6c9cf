/- Part 46: a channel's new state; a promise's end; which route is better. -/
section X46
variable {D : va_G} {N0 : Nat} {d a : Nat} {h : XH} {f s st he pu pd pa : Int32} {b1 b2 pl : Nat} {se : Bool} {c1 c2 : Nat → Int32} {L : Nat}
/-- the heap with a channel's next state -/
def hst (h : XH) (a : Nat) (f s : Int32) (b1 b2 pl : Nat) (L : Nat) (st he pu pd pa : Int32) (se : Bool) (c1 c2 : Nat → Int32) (nd0 ch : Int32) : XH :=
  xput (xput (xput h b1 (.inl (false, .int, 64, .inl (upd c1 (L + 1) (c1 L + if nd0 = f then ch else 0))))) b2 (.inl (false, .int, 64, .inl (upd c2 (L + 1) (c2 L + if nd0 = s then ch else 0))))) a (.inr (4, chF f s b1 b2 pl (nI (L + 1)) st he pu pd pa se))
theorem c_C_makeState (ha : xget h a = some (.inr (4, chF f s b1 b2 pl (nI L) st he pu pd pa se))) (h1 : xget h b1 = some (.inl (false, .int, 64, .inl c1))) (h2 : xget h b2 = some (.inl (false, .int, 64, .inl c2))) (hl : L < 63) (n1 : a ≠ b1) (n2 : a ≠ b2) (n3 : b2 ≠ b1) {nd0 ch : Int32} :
    xV D N0 mC_makeState d 0 (xargs 3 [.ref a, .int nd0, .int ch]) [] h (xEq (.returned none) (hst h a f s b1 b2 pl L st he pu pd pa se c1 c2 nd0 ch)) := by
  unfold hst
  have t2 : ∀ X : XC, ∀ z : Int32, (if nd0 = s then ch else 0) = z → xV D N0 mC_makeState d 66 (xargs 3 [.ref a, .int nd0, .int ch]) [.int z, .int (c2 L), .int (nI L + 1), .ref b2] (xput h b1 X) (xEq (.returned none) (xput (xput (xput h b1 X) b2 (.inl (false, .int, 64, .inl (upd c2 (L + 1) (c2 L + if nd0 = s then ch else 0))))) a (.inr (4, chF f s b1 b2 pl (nI (L + 1)) st he pu pd pa se)))) := by
    intro X z hz
    refine xV.step rfl ?_
    refine xV.is (f := c2) (n := 64) (j := L + 1) rfl (by rw [xput_ne n3]; exact h2) (xn_succ L) (by omega) (by omega) ?_
    have ha2 : xget (xput (xput h b1 X) b2 (.inl (false, .int, 64, .inl (upd c2 (L + 1) (c2 L + z))))) a = some (.inr (4, chF f s b1 b2 pl (nI L) st he pu pd pa se)) := by rw [xput_ne n2, xput_ne n1]; exact ha
    repeat' first
      | refine xV.step rfl ?_
      | refine xV.get xcl_ok rfl ha2 rfl ?_
    rw [xn_succ]
    refine xV.put xcl_ok rfl ha2 rfl rfl rfl (Nat.le_of_ble_eq_true rfl) ?_
    rw [hz]
    exact xV.vret rfl rfl ⟨rfl, rfl⟩
  have t1 : ∀ z : Int32, (if nd0 = f then ch else 0) = z → xV D N0 mC_makeState d 32 (xargs 3 [.ref a, .int nd0, .int ch]) [.int z, .int (c1 L), .int (nI L + 1), .ref b1] h (xEq (.returned none) (xput (xput (xput h b1 (.inl (false, .int, 64, .inl (upd c1 (L + 1) (c1 L + if nd0 = f then ch else 0))))) b2 (.inl (false, .int, 64, .inl (upd c2 (L + 1) (c2 L + if nd0 = s then ch else 0))))) a (.inr (4, chF f s b1 b2 pl (nI (L + 1)) st he pu pd pa se)))) := by
    intro z hz
    rw [hz]
    refine xV.step rfl ?_
    refine xV.is (j := L + 1) rfl h1 (xn_succ L) (by omega) (by omega) ?_
    have ha1 : xget (xput h b1 (.inl (false, .int, 64, .inl (upd c1 (L + 1) (c1 L + z))))) a = some (.inr (4, chF f s b1 b2 pl (nI L) st he pu pd pa se)) := by rw [xput_ne n1]; exact ha
    repeat' first
      | refine xV.step rfl ?_
      | refine xV.get xcl_ok rfl ha1 rfl ?_
    refine xV.ii (f := c2) (n := 64) (j := L) rfl (by rw [xput_ne n3]; exact h2) rfl (by omega) (by omega) ?_
    repeat' first
      | refine xV.step rfl ?_
      | refine xV.get xcl_ok rfl ha1 rfl ?_
    refine xV.br rfl (fun k1 => ?_) (fun k1 => ?_)
    · refine xV.step rfl ?_
      refine xV.step rfl ?_
      exact t2 _ _ (if_pos k1)
    · refine xV.step rfl ?_
      exact t2 _ _ (if_neg k1)
  repeat' first
    | refine xV.step rfl ?_
    | refine xV.get xcl_ok rfl ha rfl ?_
  refine xV.ii (j := L) rfl h1 rfl (by omega) (by omega) ?_
  repeat' first
    | refine xV.step rfl ?_
    | refine xV.get xcl_ok rfl ha rfl ?_
  refine xV.br rfl (fun k1 => ?_) (fun k1 => ?_)
  · refine xV.step rfl ?_
    refine xV.step rfl ?_
    exact t1 _ (if_pos k1)
  · refine xV.step rfl ?_
    exact t1 _ (if_neg k1)
theorem c_C_endPromise {o : Nat} {p q am dl mi gi : Int32} {lo : Int64} {po : Bool} (ha : xget h a = some (.inr (4, chF f s b1 b2 pl (nI L) st he pu pd pa se))) (h1 : xget h b1 = some (.inl (false, .int, 64, .inl c1))) (h2 : xget h b2 = some (.inl (false, .int, 64, .inl c2))) (ho : xget h o = some (.inr (5, prF p q am lo dl mi gi po))) (hl : L < 63) (n1 : a ≠ b1) (n2 : a ≠ b2) (n3 : b2 ≠ b1) (n4 : o ≠ a) (n5 : o ≠ b1) (n6 : o ≠ b2) {rc : Int32} :
    xV D N0 mC_endPromise (d + 1) 0 (xargs 3 [.ref a, .ref o, .int rc]) [] h (xEq (.returned none) (xput (hst h a f s b1 b2 pl L st he pu pd pa se c1 c2 rc am) o (.inr (5, prF p q am lo dl mi (nI (L + 1)) po)))) := by
  repeat' refine xV.step rfl ?_
  refine xV.get xcl_ok rfl ho rfl ?_
  refine xV.cV rfl rfl ha rfl g_mC_endPromise_75 mC_makeState_ok (Nat.le_of_ble_eq_true rfl) (Nat.le_of_ble_eq_true rfl) (c_C_makeState ha h1 h2 hl n1 n2 n3) ?_
  refine xV.step rfl ?_
  refine xV.step rfl ?_
  refine xV.get xcl_ok rfl (fs := chF f s b1 b2 pl (nI (L + 1)) st he pu pd pa se) xput_get rfl ?_
  refine xV.put xcl_ok rfl (fs := prF p q am lo dl mi gi po) ?_ rfl rfl rfl (Nat.le_of_ble_eq_true rfl) ?_
  · unfold hst
    rw [xput_ne n4, xput_ne n6, xput_ne n5]
    exact ho
  · exact xV.vret rfl rfl ⟨rfl, rfl⟩
end X46
section Y46
variable {D : va_G} {N0 : Nat} {d a b : Nat} {h : XH} {ch py am ch' py' am' : Nat} {c m c' m' : Nat → Int32}
theorem i64_inj {x y : Int32} : x.toInt64 = y.toInt64 ↔ x = y := by
  rw [← Int64.toInt_inj, ← Int32.toInt_inj, Int32.toInt_toInt64, Int32.toInt_toInt64]
theorem i64_lt {x y : Int32} : x.toInt64 < y.toInt64 ↔ x < y := by
  rw [Int64.lt_iff_toInt_lt, Int32.lt_iff_toInt_lt, Int32.toInt_toInt64, Int32.toInt_toInt64]
theorem c_R_isBetter_loop {l1 l2 : Int32} (ha : xget h a = some (.inr (3, roF ch py am l1))) (hb : xget h b = some (.inr (3, roF ch' py' am' l2))) (hc : xget h ch = some (.inl (false, .int, 5, .inl c))) (hc' : xget h ch' = some (.inl (false, .int, 5, .inl c'))) : ∀ (T B : SP) (x : Int32), B.length = T.length → T.length ≤ 5 → x + 1 = nI T.length → RepW c T → RepW c' B →
    xV D N0 mR_isBetterThan d 72 [some (.ref a), some (.ref b), some (.int x)] [] h (xEq (.returned (some (.int (xB (slex T B))))) h) := by
  intro T
  induction T with
  | nil =>
    intro B x hB _ hx _ _
    have hx' : x = -1 := by
      have : x + 1 + (-1) = nI 0 + (-1) := by rw [hx]; rfl
      rw [xi_sub] at this
      exact this
    subst hx'
    refine xV.step rfl ?_
    refine xV.br rfl (fun _ => ?_) (fun h1 => absurd (by decide) h1)
    refine xV.step rfl ?_
    exact xV.iret rfl rfl rfl ⟨rfl, rfl⟩
  | cons e T ih =>
    intro B x hB hT hx hW hW'
    cases B with
    | nil => cases hB
    | cons f B =>
    have hT' : T.length < 5 := hT
    have hB' : B.length = T.length := by simpa using hB
    have hx' : x = nI T.length := by
      have h1 : x + 1 + (-1) = nI (T.length + 1) + (-1) := by rw [hx]; rfl
      rw [xi_sub, xn_dec] at h1
      exact h1
    subst hx'
    obtain ⟨w1, w2, w3⟩ := hW
    obtain ⟨v1, v2, v3⟩ := hW'
    rw [hB'] at v1
    refine xV.step rfl ?_
    refine xV.br rfl (fun h1 => absurd h1 (xn_nonneg (by omega))) (fun h1 => ?_)
    refine xV.step rfl ?_
    refine xV.get xcl_ok rfl ha rfl ?_
    refine xV.step rfl ?_
    refine xV.ii (j := T.length) rfl hc rfl hT' (by omega) ?_
    refine xV.step rfl ?_
    refine xV.get xcl_ok rfl hb rfl ?_
    refine xV.step rfl ?_
    refine xV.ii (j := T.length) rfl hc' rfl hT' (by omega) ?_
    rw [w1, v1]
    refine xV.br rfl (fun h2 => ?_) (fun h2 => ?_)
    · rw [xn_inj (by omega) (by omega)] at h2
      refine xV.step rfl ?_
      refine xV.step rfl ?_
      rw [slex, if_pos h2]
      refine ih B _ hB' (by omega) ?_ w3 v3
      rw [Int32.add_assoc]
      exact Int32.add_zero _
    · rw [xn_inj (by omega) (by omega)] at h2
      rw [slex, if_neg h2]
      refine xV.step rfl ?_
      refine xV.get xcl_ok rfl ha rfl ?_
      refine xV.step rfl ?_
      refine xV.ii (j := T.length) rfl hc rfl hT' (by omega) ?_
      refine xV.step rfl ?_
      refine xV.get xcl_ok rfl hb rfl ?_
      refine xV.step rfl ?_
      refine xV.ii (j := T.length) rfl hc' rfl hT' (by omega) ?_
      rw [w1, v1]
      refine xV.br rfl (fun h3 => ?_) (fun h3 => ?_)
      · rw [xn_le (by omega) (by omega)] at h3
        repeat' refine xV.step rfl ?_
        exact xV.iret rfl rfl rfl ⟨xB0 (by omega), rfl⟩
      · rw [xn_le (by omega) (by omega)] at h3
        repeat' refine xV.step rfl ?_
        exact xV.iret rfl rfl rfl ⟨xB1 (by omega), rfl⟩
theorem c_R_isBetterThan {e : Nat × Int32 × Int64} {T B : SP} (ha : xget h a = some (.inr (3, roF ch py am (nI (T.length + 1))))) (hb : xget h b = some (.inr (3, roF ch' py' am' (nI B.length)))) (hc : xget h ch = some (.inl (false, .int, 5, .inl c))) (hc' : xget h ch' = some (.inl (false, .int, 5, .inl c'))) (hm : xget h am = some (.inl (false, .int, 5, .inl m))) (hm' : xget h am' = some (.inl (false, .int, 5, .inl m'))) (hT : T.length < 5) (hB : B.length ≤ 5) (hW : RepW c (e :: T)) (hW' : RepW c' B) (he : (m T.length).toInt64 = e.2.2) (he' : ∀ f B', B = f :: B' → (m' B'.length).toInt64 = f.2.2) :
    xV D N0 mR_isBetterThan (d + 2) 0 (xargs 3 [.ref a, .ref b]) [] h (xEq (.returned (some (.int (xB (sbet e.2.2 (e :: T) B))))) h) := by
  refine xV.step rfl ?_
  refine xV.get xcl_ok rfl hb rfl ?_
  cases B with
  | nil =>
    refine xV.br rfl (fun h1 => ?_) (fun h1 => absurd rfl h1)
    refine xV.step rfl ?_
    exact xV.iret rfl rfl rfl ⟨rfl, rfl⟩
  | cons f B =>
    have hl : (f :: B).length = B.length + 1 := rfl
    rw [hl] at hb hB
    rw [hl]
    have he2 := he' f B rfl
    refine xV.br rfl (fun z => ?_) (fun h1 => ?_)
    · rw [show (0 : Int32) = nI 0 from rfl, xn_inj (by omega) (by omega)] at z
      omega
    refine xV.step rfl ?_
    refine xV.cV rfl rfl ha rfl g_mR_isBetterThan_35 mR_firstAmount_ok (Nat.le_of_ble_eq_true rfl) (Nat.le_of_ble_eq_true rfl) (c_R_firstAmount ha hm hT) ?_
    refine xV.step rfl ?_
    refine xV.cV rfl rfl hb rfl g_mR_isBetterThan_35 mR_firstAmount_ok (Nat.le_of_ble_eq_true rfl) (Nat.le_of_ble_eq_true rfl) (c_R_firstAmount hb hm' (by omega)) ?_
    refine xV.br rfl (fun h2 => ?_) (fun h2 => ?_)
    · have h2' : e.2.2 = f.2.2 := by rw [← he, ← he2, i64_inj]; exact h2
      rw [sbet, if_pos h2', show (e :: T).length = T.length + 1 from rfl]
      repeat' first
        | refine xV.step rfl ?_
        | refine xV.get xcl_ok rfl ha rfl ?_
        | refine xV.get xcl_ok rfl hb rfl ?_
      refine xV.br rfl (fun h3 => ?_) (fun h3 => ?_)
      · rw [xn_inj (by omega) (by omega)] at h3
        rw [if_pos h3]
        refine xV.step rfl ?_
        refine xV.get xcl_ok rfl ha rfl ?_
        refine xV.step rfl ?_
        refine xV.step rfl ?_
        refine xV.step rfl ?_
        refine c_R_isBetter_loop ha hb hc hc' (e :: T) (f :: B) _ (by simp; omega) (by simp; omega) ?_ hW hW'
        rw [show (e :: T).length = T.length + 1 from rfl]
        generalize nI (T.length + 1) = y
        rw [Int32.sub_add_cancel]
      · rw [xn_inj (by omega) (by omega)] at h3
        rw [if_neg h3]
        repeat' first
          | refine xV.step rfl ?_
          | refine xV.get xcl_ok rfl ha rfl ?_
          | refine xV.get xcl_ok rfl hb rfl ?_
        refine xV.br rfl (fun h4 => ?_) (fun h4 => ?_)
        · rw [xn_le (by omega) (by omega)] at h4
          repeat' refine xV.step rfl ?_
          exact xV.iret rfl rfl rfl ⟨xB0 (by omega), rfl⟩
        · rw [xn_le (by omega) (by omega)] at h4
          repeat' refine xV.step rfl ?_
          exact xV.iret rfl rfl rfl ⟨xB1 (by omega), rfl⟩
    · have h2' : ¬ e.2.2 = f.2.2 := fun z => h2 (by rw [← he, ← he2, i64_inj] at z; exact z)
      rw [sbet, if_neg h2']
      refine xV.step rfl ?_
      refine xV.cV rfl rfl ha rfl g_mR_isBetterThan_35 mR_firstAmount_ok (Nat.le_of_ble_eq_true rfl) (Nat.le_of_ble_eq_true rfl) (c_R_firstAmount ha hm hT) ?_
      refine xV.step rfl ?_
      refine xV.cV rfl rfl hb rfl g_mR_isBetterThan_35 mR_firstAmount_ok (Nat.le_of_ble_eq_true rfl) (Nat.le_of_ble_eq_true rfl) (c_R_firstAmount hb hm' (by omega)) ?_
      refine xV.br rfl (fun h4 => ?_) (fun h4 => ?_)
      · repeat' refine xV.step rfl ?_
        refine xV.iret rfl rfl rfl ⟨xB0 (fun z => ?_), rfl⟩
        rw [← he, ← he2, i64_lt] at z
        simp only [Int32.lt_iff_toInt_lt, Int32.le_iff_toInt_le] at *
        omega
      · repeat' refine xV.step rfl ?_
        refine xV.iret rfl rfl rfl ⟨xB1 ?_, rfl⟩
        rw [← he, ← he2, i64_lt]
        simp only [Int32.lt_iff_toInt_lt, Int32.le_iff_toInt_le] at *
        omega
end Y46
