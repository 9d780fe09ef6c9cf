/- Part 76: a new payment; its deadlines. -/
theorem xh_ext {u v : XH} (h1 : u.1 = v.1) (h2 : u.2.1 = v.2.1) (h3 : u.2.2.1 = v.2.2.1) (h4 : ∀ q, xget u q = xget v q) : u = v := Prod.ext h1 (Prod.ext h2 (Prod.ext h3 (funext h4)))
theorem xput_same {u : XH} {a : Nat} {c : XC} (h : xget u a = some c) : xput u a c = u := xh_ext rfl rfl rfl (fun q => by
  by_cases e : q = a
  · rw [e, xput_get, h]
  · rw [xput_ne e])
def iA (n : Nat) (f : Nat → Int32) : XC := .inl (false, .int, n, .inl f)
/-- the heap with a payment's five arrays -/
def hY (h : XH) (a L : Nat) (fs : List Value) (f1 f2 f3 : Nat → Int32) : XH := xput (xnew (xnew (xnew (xnew (xnew h (iA L f1) L) (iA L f2) L) (iA L f3) L) (iA L fun _ => 0) L) (iA L fun _ => 0) L) a (.inr (6, fs))
theorem hY_at (h : XH) (a L : Nat) (fs : List Value) (f1 f2 f3 : Nat → Int32) (q : Nat) : xget (hY h a L fs f1 f2 f3) q = if q = a then some (.inr (6, fs)) else if q = h.1 + 4 then some (iA L fun _ => 0) else if q = h.1 + 3 then some (iA L fun _ => 0) else if q = h.1 + 2 then some (iA L f3) else if q = h.1 + 1 then some (iA L f2) else if q = h.1 then some (iA L f1) else xget h q := rfl
section X76
variable {D : va_G} {N0 : Nat} {d a L : Nat} {h : XH} {fs fs' : List Value} {f1 f2 f3 f' : Nat → Int32}
theorem hY_0 : xget (hY h a L fs f1 f2 f3) a = some (.inr (6, fs)) := xput_get
theorem hY_1 (hl : a < h.1) : xget (hY h a L fs f1 f2 f3) h.1 = some (iA L f1) := by
  rw [hY_at, if_neg (by omega), if_neg (by omega), if_neg (by omega), if_neg (by omega), if_neg (by omega), if_pos rfl]
theorem hY_2 (hl : a < h.1) : xget (hY h a L fs f1 f2 f3) (h.1 + 1) = some (iA L f2) := by
  rw [hY_at, if_neg (by omega), if_neg (by omega), if_neg (by omega), if_neg (by omega), if_pos rfl]
theorem hY_3 (hl : a < h.1) : xget (hY h a L fs f1 f2 f3) (h.1 + 2) = some (iA L f3) := by
  rw [hY_at, if_neg (by omega), if_neg (by omega), if_neg (by omega), if_pos rfl]
theorem hY_4 (hl : a < h.1) : xget (hY h a L fs f1 f2 f3) (h.1 + 3) = some (iA L fun _ => 0) := by
  rw [hY_at, if_neg (by omega), if_neg (by omega), if_pos rfl]
theorem hY_5 (hl : a < h.1) : xget (hY h a L fs f1 f2 f3) (h.1 + 4) = some (iA L fun _ => 0) := by
  rw [hY_at, if_neg (by omega), if_pos rfl]
theorem hY_o {q : Nat} (hq : q < h.1) (hn : q ≠ a) : xget (hY h a L fs f1 f2 f3) q = xget h q := by
  rw [hY_at, if_neg hn, if_neg (by omega), if_neg (by omega), if_neg (by omega), if_neg (by omega), if_neg (by omega)]
theorem hY_p1 (hl : a < h.1) : xput (hY h a L fs f1 f2 f3) h.1 (iA L f') = hY h a L fs f' f2 f3 := xh_ext rfl rfl rfl (fun q => by
  by_cases e : q = h.1
  · rw [e, xput_get, hY_1 hl]
  · rw [xput_ne e, hY_at, hY_at, if_neg e, if_neg e])
theorem hY_p2 (hl : a < h.1) : xput (hY h a L fs f1 f2 f3) (h.1 + 1) (iA L f') = hY h a L fs f1 f' f3 := xh_ext rfl rfl rfl (fun q => by
  by_cases e : q = h.1 + 1
  · rw [e, xput_get, hY_2 hl]
  · rw [xput_ne e, hY_at, hY_at, if_neg e, if_neg e])
theorem hY_p3 (hl : a < h.1) : xput (hY h a L fs f1 f2 f3) (h.1 + 2) (iA L f') = hY h a L fs f1 f2 f' := xh_ext rfl rfl rfl (fun q => by
  by_cases e : q = h.1 + 2
  · rw [e, xput_get, hY_3 hl]
  · rw [xput_ne e, hY_at, hY_at, if_neg e, if_neg e])
/-- a route's array turned round -/
def rv (c : Nat → Int32) (L : Nat) : Nat → Nat → Int32
  | 0 => fun _ => 0
  | k + 1 => upd (rv c L k) k (c (L - 1 - k))
theorem c_Y_init {rt ch py am : Nat} {c p m : Nat → Int32} {re : Int32} {lo : Int64} (ha : xget h a = some (.inr (6, xdf 6))) (hl : a < h.1) (hrt : xget h rt = some (.inr (3, roF ch py am (nI L)))) (hc : xget h ch = some (.inl (false, .int, 5, .inl c))) (hp : xget h py = some (.inl (false, .int, 5, .inl p))) (hm : xget h am = some (.inl (false, .int, 5, .inl m))) (l1 : rt < h.1) (l2 : ch < h.1) (l3 : py < h.1) (l4 : am < h.1) (n1 : rt ≠ a) (n2 : ch ≠ a) (n3 : py ≠ a) (n4 : am ≠ a) (hL : L ≤ 5) (hc1 : h.2.1 + 5 ≤ xCmax) (hc2 : h.2.2.1 + 25 ≤ xSmax) :
    xV D N0 mY_init (d + 1) 0 (xargs 6 [.ref a, .ref rt, .int re, .long lo]) [] h (xEq (.returned none) (hY h a L (pyF re lo (nI L) h.1 (h.1 + 1) (h.1 + 2) (h.1 + 3) (h.1 + 4) 0 0 (nI 0) (nI 0) 0) (rv c L L) (rv p L L) (rv m L L))) := by
  have loop : ∀ n k, k + n = L → xV D N0 mY_init (d + 1) 100 [some (.ref a), some (.ref rt), some (.int re), some (.long lo), none, some (.int (nI k))] [] (hY h a L (pyF re lo (nI L) h.1 (h.1 + 1) (h.1 + 2) (h.1 + 3) (h.1 + 4) 0 0 (nI 0) (nI 0) 0) (rv c L k) (rv p L k) (rv m L k)) (xEq (.returned none) (hY h a L (pyF re lo (nI L) h.1 (h.1 + 1) (h.1 + 2) (h.1 + 3) (h.1 + 4) 0 0 (nI 0) (nI 0) 0) (rv c L L) (rv p L L) (rv m L L))) := by
    intro n
    induction n with
    | zero =>
      intro k hk
      obtain rfl : k = L := by omega
      refine xV.step rfl ?_
      refine xV.step rfl ?_
      refine xV.get xcl_ok rfl hY_0 rfl ?_
      refine xV.br rfl (fun h1 => ?_) (fun h1 => absurd (by rw [xn_le (by omega) (by omega)]; omega) h1)
      exact xV.vret rfl rfl ⟨rfl, rfl⟩
    | succ n ih =>
      intro k hk
      have ih := ih (k + 1) (by omega)
      rw [← xn_succ] at ih
      refine xV.step rfl ?_
      refine xV.step rfl ?_
      refine xV.get xcl_ok rfl hY_0 rfl ?_
      refine xV.br rfl (fun h1 => ?_) (fun h1 => ?_)
      · rw [xn_le (by omega) (by omega)] at h1
        omega
      have sl : ∀ f1 f2 f3 : Nat → Int32, xget (hY h a L (pyF re lo (nI L) h.1 (h.1 + 1) (h.1 + 2) (h.1 + 3) (h.1 + 4) 0 0 (nI 0) (nI 0) 0) f1 f2 f3) rt = some (.inr (3, roF ch py am (nI L))) := fun f1 f2 f3 => by rw [hY_o l1 n1]; exact hrt
      have ei : nI L - 1 - nI k = nI (L - 1 - k) := by rw [show (1 : Int32) = nI 1 from rfl, xn_sub (by omega), xn_sub (by omega)]
      -- channels
      refine xV.step rfl ?_
      refine xV.get xcl_ok rfl hY_0 rfl ?_
      refine xV.step rfl ?_
      refine xV.step rfl ?_
      refine xV.get xcl_ok rfl (sl _ _ _) rfl ?_
      refine xV.step rfl ?_
      refine xV.step rfl ?_
      refine xV.cV rfl rfl (sl _ _ _) rfl g_mY_init_57 mR_slot_ok (Nat.le_of_ble_eq_true rfl) (Nat.le_of_ble_eq_true rfl) (c_R_slot (sl _ _ _)) ?_
      refine xV.ii (f := c) (n := 5) (j := L - 1 - k) rfl (by rw [hY_o l2 n2]; exact hc) ei (by omega) (by omega) ?_
      refine xV.is (f := rv c L k) (n := L) (j := k) rfl (hY_1 hl) rfl (by omega) (by omega) ?_
      rw [show (.inl (false, .int, L, .inl (upd (rv c L k) k (c (L - 1 - k)))) : XC) = iA L (rv c L (k + 1)) from rfl, hY_p1 hl]
      -- payers
      refine xV.step rfl ?_
      refine xV.get xcl_ok rfl hY_0 rfl ?_
      refine xV.step rfl ?_
      refine xV.step rfl ?_
      refine xV.get xcl_ok rfl (sl _ _ _) rfl ?_
      refine xV.step rfl ?_
      refine xV.step rfl ?_
      refine xV.cV rfl rfl (sl _ _ _) rfl g_mY_init_57 mR_slot_ok (Nat.le_of_ble_eq_true rfl) (Nat.le_of_ble_eq_true rfl) (c_R_slot (sl _ _ _)) ?_
      refine xV.ii (f := p) (n := 5) (j := L - 1 - k) rfl (by rw [hY_o l3 n3]; exact hp) ei (by omega) (by omega) ?_
      refine xV.is (f := rv p L k) (n := L) (j := k) rfl (hY_2 hl) rfl (by omega) (by omega) ?_
      rw [show (.inl (false, .int, L, .inl (upd (rv p L k) k (p (L - 1 - k)))) : XC) = iA L (rv p L (k + 1)) from rfl, hY_p2 hl]
      -- amounts
      refine xV.step rfl ?_
      refine xV.get xcl_ok rfl hY_0 rfl ?_
      refine xV.step rfl ?_
      refine xV.step rfl ?_
      refine xV.get xcl_ok rfl (sl _ _ _) rfl ?_
      refine xV.step rfl ?_
      refine xV.step rfl ?_
      refine xV.cV rfl rfl (sl _ _ _) rfl g_mY_init_57 mR_slot_ok (Nat.le_of_ble_eq_true rfl) (Nat.le_of_ble_eq_true rfl) (c_R_slot (sl _ _ _)) ?_
      refine xV.ii (f := m) (n := 5) (j := L - 1 - k) rfl (by rw [hY_o l4 n4]; exact hm) ei (by omega) (by omega) ?_
      refine xV.is (f := rv m L k) (n := L) (j := k) rfl (hY_3 hl) rfl (by omega) (by omega) ?_
      rw [show (.inl (false, .int, L, .inl (upd (rv m L k) k (m (L - 1 - k)))) : XC) = iA L (rv m L (k + 1)) from rfl, hY_p3 hl]
      refine xV.step rfl ?_
      refine xV.step rfl ?_
      exact ih
  refine xV.step rfl ?_
  refine xV.obj rfl g_mY_init_3 (Nat.le_of_ble_eq_true rfl) ?_
  refine xV.step rfl ?_
  refine xV.step rfl ?_
  refine xV.put xcl_ok rfl ha rfl rfl rfl (Nat.le_of_ble_eq_true rfl) ?_
  iterate 6
    refine xV.step rfl ?_
    refine xV.step rfl ?_
    refine xV.put xcl_ok rfl xput_get rfl rfl rfl (Nat.le_of_ble_eq_true rfl) ?_
    rw [xput_put]
  refine xV.step rfl ?_
  refine xV.step rfl ?_
  refine xV.get xcl_ok rfl (show xget (xput h a _) rt = some (.inr (3, roF ch py am (nI L))) from by rw [xput_ne n1]; exact hrt) rfl ?_
  refine xV.put xcl_ok rfl xput_get rfl rfl rfl (Nat.le_of_ble_eq_true rfl) ?_
  rw [xput_put]
  -- the five arrays
  refine xV.step rfl ?_
  refine xV.step rfl ?_
  refine xV.get xcl_ok rfl xput_get rfl ?_
  refine xV.nwI (N := L) rfl rfl (by omega) (by show h.2.1 + 1 ≤ _; omega) (by show h.2.2.1 + L ≤ _; omega) ?_
  rw [put_new (by omega)]
  refine xV.put xcl_ok rfl xput_get rfl rfl rfl (Nat.le_of_ble_eq_true rfl) ?_
  rw [xput_put]
  refine xV.step rfl ?_
  refine xV.step rfl ?_
  refine xV.get xcl_ok rfl xput_get rfl ?_
  refine xV.nwI (N := L) rfl rfl (by omega) (by show h.2.1 + 1 + 1 ≤ _; omega) (by show h.2.2.1 + L + L ≤ _; omega) ?_
  rw [put_new (by show a ≠ h.1 + 1; omega)]
  refine xV.put xcl_ok rfl xput_get rfl rfl rfl (Nat.le_of_ble_eq_true rfl) ?_
  rw [xput_put]
  refine xV.step rfl ?_
  refine xV.step rfl ?_
  refine xV.get xcl_ok rfl xput_get rfl ?_
  refine xV.nwI (N := L) rfl rfl (by omega) (by show h.2.1 + 1 + 1 + 1 ≤ _; omega) (by show h.2.2.1 + L + L + L ≤ _; omega) ?_
  rw [put_new (by show a ≠ h.1 + 1 + 1; omega)]
  refine xV.put xcl_ok rfl xput_get rfl rfl rfl (Nat.le_of_ble_eq_true rfl) ?_
  rw [xput_put]
  refine xV.step rfl ?_
  refine xV.step rfl ?_
  refine xV.get xcl_ok rfl xput_get rfl ?_
  refine xV.nwI (N := L) rfl rfl (by omega) (by show h.2.1 + 1 + 1 + 1 + 1 ≤ _; omega) (by show h.2.2.1 + L + L + L + L ≤ _; omega) ?_
  rw [put_new (by show a ≠ h.1 + 1 + 1 + 1; omega)]
  refine xV.put xcl_ok rfl xput_get rfl rfl rfl (Nat.le_of_ble_eq_true rfl) ?_
  rw [xput_put]
  refine xV.step rfl ?_
  refine xV.step rfl ?_
  refine xV.get xcl_ok rfl xput_get rfl ?_
  refine xV.nwI (N := L) rfl rfl (by omega) (by show h.2.1 + 1 + 1 + 1 + 1 + 1 ≤ _; omega) (by show h.2.2.1 + L + L + L + L + L ≤ _; omega) ?_
  rw [put_new (by show a ≠ h.1 + 1 + 1 + 1 + 1; omega)]
  refine xV.put xcl_ok rfl xput_get rfl rfl rfl (Nat.le_of_ble_eq_true rfl) ?_
  rw [xput_put]
  refine xV.step rfl ?_
  refine xV.step rfl ?_
  exact loop L 0 (by omega)
end X76
