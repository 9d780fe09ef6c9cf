/- Part 44: Secrets.learn; Payment; Route's small methods. -/
def pyF (re : Int32) (lo : Int64) (ln : Int32) (ch py am de pr : Nat) (st ou ma le en : Int32) : List Value := [.int re, .long lo, .int ln, .ref ch, .ref py, .ref am, .ref de, .ref pr, .int st, .int ou, .int ma, .int le, .int en]
def roF (ch py am : Nat) (ln : Int32) : List Value := [.ref ch, .ref py, .ref am, .int ln]
theorem xput_put {h : XH} {a : Nat} {c c' : XC} : xput (xput h a c) a c' = xput h a c' := by
  refine Prod.ext rfl (Prod.ext rfl (Prod.ext rfl ?_))
  funext x
  show (if x = a then some c' else if x = a then some c else h.2.2.2 x) = if x = a then some c' else h.2.2.2 x
  by_cases hx : x = a
  · rw [if_pos hx, if_pos hx]
  · rw [if_neg hx, if_neg hx, if_neg hx]
def slearn (h : XH) (a l g : Nat) (f : Nat → Int64) (w : Nat → Int32) (K : Nat) (k : Int64) (z : Int32) : XH := match mfind f k K with
  | some j => xput h g (.inl (false, .int, 24, .inl (upd w j (w j ||| z))))
  | none => xput (xput (xput h l (.inl (false, .long, 24, .inr (.inl (vp_updL f K k))))) g (.inl (false, .int, 24, .inl (upd w K z)))) a (.inr (1, [.ref l, .ref g, .int (nI (K + 1))]))
section X44
variable {D : va_G} {N0 : Nat} {d a l g : Nat} {h : XH} {f : Nat → Int64} {w : Nat → Int32} {K : Nat}
theorem c_S_learn (ha : xget h a = some (.inr (1, [.ref l, .ref g, .int (nI K)]))) (hl : xget h l = some (.inl (false, .long, 24, .inr (.inl f)))) (hg : xget h g = some (.inl (false, .int, 24, .inl w))) (hK : K ≤ 24) (hd : ∀ i j, i < K → j < K → f i = f j → i = j) (n1 : l ≠ a) (n2 : g ≠ a) (n3 : g ≠ l) {k : Int64} {z : Int32} (hr : shas f K k = true) :
    xV D N0 mS_learn (d + 1) 0 (xargs 5 [.ref a, .long k, .int z]) [] h (xEq (.returned none) (slearn h a l g f w K k z)) := by
  repeat' refine xV.step rfl ?_
  refine xV.cV rfl rfl ha rfl g_mS_learn_23 mS_find_ok (Nat.le_of_ble_eq_true rfl) (Nat.le_of_ble_eq_true rfl) (c_S_find ha hl hK hd) ?_
  unfold slearn
  cases hf : mfind f k K with
  | none =>
    have hK3 : K < 24 := by
      unfold shas at hr
      rw [hf] at hr
      simpa using hr
    repeat' refine xV.step rfl ?_
    refine xV.br rfl (fun h1 => ?_) (fun h1 => absurd rfl h1)
    refine xV.step rfl ?_
    refine xV.get xcl_ok rfl ha rfl ?_
    refine xV.step rfl ?_
    refine xV.br rfl (fun h2 => ?_) (fun h2 => ?_)
    · rw [show (24 : Int32) = nI 24 from rfl, xn_le (by omega) (by omega)] at h2
      omega
    repeat' first
      | refine xV.step rfl ?_
      | refine xV.get xcl_ok rfl ha rfl ?_
    refine xV.js (j := K) rfl hl rfl hK3 (by omega) ?_
    have ha1 : xget (xput h l (.inl (false, .long, 24, .inr (.inl (vp_updL f K k))))) a = some (.inr (1, [.ref l, .ref g, .int (nI K)])) := by rw [xput_ne (fun e => n1 e.symm)]; exact ha
    repeat' first
      | refine xV.step rfl ?_
      | refine xV.get xcl_ok rfl ha1 rfl ?_
    refine xV.is (f := w) (n := 24) (j := K) rfl (by rw [xput_ne n3]; exact hg) rfl hK3 (by omega) ?_
    have ha2 : xget (xput (xput h l (.inl (false, .long, 24, .inr (.inl (vp_updL f K k))))) g (.inl (false, .int, 24, .inl (upd w K z)))) a = some (.inr (1, [.ref l, .ref g, .int (nI K)])) := by rw [xput_ne (fun e => n2 e.symm)]; exact ha1
    repeat' first
      | refine xV.step rfl ?_
      | refine xV.get xcl_ok rfl ha2 rfl ?_
    rw [xn_succ]
    refine xV.put xcl_ok rfl ha2 rfl rfl rfl (Nat.le_of_ble_eq_true rfl) ?_
    exact xV.vret rfl rfl ⟨rfl, rfl⟩
  | some j =>
    have hj : j < 24 := by have := (mfind_lt hf).1; omega
    repeat' refine xV.step rfl ?_
    refine xV.br rfl (fun h1 => ?_) (fun h1 => ?_)
    · have h2 := (oi_none (o := some j) (fun n hn => by cases hn; omega)).mp h1
      cases h2
    repeat' first
      | refine xV.step rfl ?_
      | refine xV.get xcl_ok rfl ha rfl ?_
    refine xV.ii (j := j) rfl hg rfl hj (by omega) ?_
    repeat' refine xV.step rfl ?_
    refine xV.is (j := j) rfl hg rfl hj (by omega) ?_
    refine xV.step rfl ?_
    exact xV.vret rfl rfl ⟨rfl, rfl⟩
end X44
section Y44
variable {D : va_G} {N0 : Nat} {d a : Nat} {h : XH} {re ln st ou ma le en : Int32} {lo : Int64} {ch py am de pr : Nat}
theorem c_Y_turnBack (ha : xget h a = some (.inr (6, pyF re lo ln ch py am de pr st ou ma le en))) {w : Int32} :
    xV D N0 mY_turnBack d 0 (xargs 2 [.ref a, .int w]) [] h (xEq (.returned none) (xput h a (.inr (6, pyF re lo ln ch py am de pr (if ma = 0 then 3 else w) w ma ma en)))) := by
  repeat' refine xV.step rfl ?_
  refine xV.put xcl_ok rfl ha rfl rfl rfl (Nat.le_of_ble_eq_true rfl) ?_
  refine xV.step rfl ?_
  refine xV.step rfl ?_
  refine xV.get xcl_ok rfl xput_get rfl ?_
  refine xV.put xcl_ok rfl xput_get rfl rfl rfl (Nat.le_of_ble_eq_true rfl) ?_
  rw [xput_put]
  refine xV.step rfl ?_
  refine xV.step rfl ?_
  refine xV.get (v := .int ma) xcl_ok rfl xput_get rfl ?_
  refine xV.br rfl (fun h1 => ?_) (fun h1 => ?_)
  · rw [if_pos h1]
    repeat' refine xV.step rfl ?_
    refine xV.put xcl_ok rfl xput_get rfl rfl rfl (Nat.le_of_ble_eq_true rfl) ?_
    rw [xput_put]
    exact xV.vret rfl rfl ⟨rfl, rfl⟩
  · rw [if_neg h1]
    repeat' refine xV.step rfl ?_
    refine xV.put xcl_ok rfl xput_get rfl rfl rfl (Nat.le_of_ble_eq_true rfl) ?_
    rw [xput_put]
    exact xV.vret rfl rfl ⟨rfl, rfl⟩
theorem c_Y_goneBack (ha : xget h a = some (.inr (6, pyF re lo ln ch py am de pr st ou ma le en))) :
    xV D N0 mY_goneBack d 0 (xargs 1 [.ref a]) [] h (xEq (.returned none) (xput h a (.inr (6, pyF re lo ln ch py am de pr (if le - 1 = 0 then 3 else st) ou ma (le - 1) en)))) := by
  refine xV.step rfl ?_
  refine xV.step rfl ?_
  refine xV.get xcl_ok rfl ha rfl ?_
  refine xV.step rfl ?_
  refine xV.step rfl ?_
  refine xV.put xcl_ok rfl ha rfl rfl rfl (Nat.le_of_ble_eq_true rfl) ?_
  refine xV.step rfl ?_
  refine xV.get (v := .int (le - 1)) xcl_ok rfl xput_get rfl ?_
  refine xV.br rfl (fun h1 => ?_) (fun h1 => ?_)
  · rw [if_pos h1]
    repeat' refine xV.step rfl ?_
    refine xV.put xcl_ok rfl xput_get rfl rfl rfl (Nat.le_of_ble_eq_true rfl) ?_
    rw [xput_put]
    exact xV.vret rfl rfl ⟨rfl, rfl⟩
  · rw [if_neg h1]
    exact xV.vret rfl rfl ⟨rfl, rfl⟩
end Y44
section Z44
variable {D : va_G} {N0 : Nat} {d a : Nat} {h : XH} {ln : Int32} {ch py am : Nat} {c p m : Nat → Int32} {N : Nat}
theorem c_R_slot (ha : xget h a = some (.inr (3, roF ch py am ln))) {i : Int32} : xV D N0 mR_slot d 0 (xargs 2 [.ref a, .int i]) [] h (xEq (.returned (some (.int (ln - 1 - i)))) h) := by
  repeat' first
    | refine xV.step rfl ?_
    | refine xV.get xcl_ok rfl ha rfl ?_
  exact xV.iret rfl rfl rfl ⟨rfl, rfl⟩
theorem c_R_firstAmount (ha : xget h a = some (.inr (3, roF ch py am (nI (N + 1))))) (hm : xget h am = some (.inl (false, .int, 5, .inl m))) (hN : N < 5) : xV D N0 mR_firstAmount (d + 1) 0 (xargs 1 [.ref a]) [] h (xEq (.returned (some (.int (m N)))) h) := by
  repeat' first
    | refine xV.step rfl ?_
    | refine xV.get xcl_ok rfl ha rfl ?_
  refine xV.cV rfl rfl ha rfl g_mR_firstAmount_25 mR_slot_ok (Nat.le_of_ble_eq_true rfl) (Nat.le_of_ble_eq_true rfl) (c_R_slot ha) ?_
  refine xV.ii (j := N) rfl hm (by rw [xn_pred, show (0 : Int32) = nI 0 from rfl, xn_sub (by omega)]; rfl) hN (by omega) ?_
  exact xV.iret rfl rfl rfl ⟨rfl, rfl⟩
theorem c_R_put (ha : xget h a = some (.inr (3, roF ch py am ln))) (hc : xget h ch = some (.inl (false, .int, 5, .inl c))) (hp : xget h py = some (.inl (false, .int, 5, .inl p))) (hm : xget h am = some (.inl (false, .int, 5, .inl m))) (n1 : a ≠ ch) (n2 : a ≠ py) (n3 : a ≠ am) (n4 : py ≠ ch) (n5 : am ≠ ch) (n6 : am ≠ py) (hN : N < 5) {x y z : Int32} :
    xV D N0 mR_put d 0 (xargs 5 [.ref a, .int (nI N), .int x, .int y, .int z]) [] h (xEq (.returned none) (xput (xput (xput (xput h ch (.inl (false, .int, 5, .inl (upd c N x)))) py (.inl (false, .int, 5, .inl (upd p N y)))) am (.inl (false, .int, 5, .inl (upd m N z)))) a (.inr (3, roF ch py am (nI (N + 1)))))) := by
  repeat' first
    | refine xV.step rfl ?_
    | refine xV.get xcl_ok rfl ha rfl ?_
  refine xV.is (j := N) rfl hc rfl hN (by omega) ?_
  have ha1 : xget (xput h ch (.inl (false, .int, 5, .inl (upd c N x)))) a = some (.inr (3, roF ch py am ln)) := by rw [xput_ne n1]; exact ha
  repeat' first
    | refine xV.step rfl ?_
    | refine xV.get xcl_ok rfl ha1 rfl ?_
  refine xV.is (f := p) (n := 5) (j := N) rfl (by rw [xput_ne n4]; exact hp) rfl hN (by omega) ?_
  have ha2 : xget (xput (xput h ch (.inl (false, .int, 5, .inl (upd c N x)))) py (.inl (false, .int, 5, .inl (upd p N y)))) a = some (.inr (3, roF ch py am ln)) := by rw [xput_ne n2]; exact ha1
  repeat' first
    | refine xV.step rfl ?_
    | refine xV.get xcl_ok rfl ha2 rfl ?_
  refine xV.is (f := m) (n := 5) (j := N) rfl (by rw [xput_ne n6, xput_ne n5]; exact hm) rfl hN (by omega) ?_
  have ha3 : xget (xput (xput (xput h ch (.inl (false, .int, 5, .inl (upd c N x)))) py (.inl (false, .int, 5, .inl (upd p N y)))) am (.inl (false, .int, 5, .inl (upd m N z)))) a = some (.inr (3, roF ch py am ln)) := by rw [xput_ne n3]; exact ha2
  repeat' refine xV.step rfl ?_
  rw [xn_succ]
  refine xV.put xcl_ok rfl ha3 rfl rfl rfl (Nat.le_of_ble_eq_true rfl) ?_
  exact xV.vret rfl rfl ⟨rfl, rfl⟩
end Z44
