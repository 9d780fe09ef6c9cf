/- Part 20: states and promises of the model. -/
section X20
variable {D : va_G} {N0 : Nat} {M : XM} {d pc m : Nat} {lv : XL} {st : List Value} {h : XH} {A : MS} {Q : Outcome → XH → Prop}
theorem xV.mi' {k nx n j : Nat} {i : Int32} {r : List Value} (hq : xon M pc = some (.iaload, nx)) (hc : mcell m A k = .inl (false, .int, n, .inl (A.2.1 k))) (hb : (Nat.ble k 41 && Nat.ble n 1024) = true) (hi : i = nI j) (hj : j < n) (kk : xV D N0 M d nx lv (.int (A.2.1 k j) :: r) (hm m A h) Q) : xV D N0 M d pc lv (.int i :: .ref (m + k) :: r) (hm m A h) Q := by
  subst hi; exact xV.mi hq hc hb hj kk
theorem xV.mj' {k nx n j : Nat} {i : Int32} {r : List Value} (hq : xon M pc = some (.laload, nx)) (hc : mcell m A k = .inl (false, .long, n, .inr (.inl (A.2.2 k)))) (hb : (Nat.ble k 41 && Nat.ble n 1024) = true) (hi : i = nI j) (hj : j < n) (kk : xV D N0 M d nx lv (.long (A.2.2 k j) :: r) (hm m A h) Q) : xV D N0 M d pc lv (.int i :: .ref (m + k) :: r) (hm m A h) Q := by
  subst hi; exact xV.mj hq hc hb hj kk
theorem xV.si' {k nx n j : Nat} {i x : Int32} {r : List Value} (hq : xon M pc = some (.iastore, nx)) (hc : mcell m A k = .inl (false, .int, n, .inl (A.2.1 k))) (hc' : mcell m (mI A k j x) k = .inl (false, .int, n, .inl (upd (A.2.1 k) j x))) (hb : (Nat.ble k 41 && Nat.ble n 1024) = true) (hi : i = nI j) (hj : j < n) (kk : xV D N0 M d nx lv r (hm m (mI A k j x) h) Q) : xV D N0 M d pc lv (.int x :: .int i :: .ref (m + k) :: r) (hm m A h) Q := by
  subst hi; exact xV.si hq hc hc' hb hj kk
theorem xV.sj' {k nx n j : Nat} {i : Int32} {x : Int64} {r : List Value} (hq : xon M pc = some (.lastore, nx)) (hc : mcell m A k = .inl (false, .long, n, .inr (.inl (A.2.2 k)))) (hc' : mcell m (mJ A k j x) k = .inl (false, .long, n, .inr (.inl (vp_updL (A.2.2 k) j x)))) (hb : (Nat.ble k 41 && Nat.ble n 1024) = true) (hi : i = nI j) (hj : j < n) (kk : xV D N0 M d nx lv r (hm m (mJ A k j x) h) Q) : xV D N0 M d pc lv (.long x :: .int i :: .ref (m + k) :: r) (hm m A h) Q := by
  subst hi; exact xV.sj hq hc hc' hb hj kk
theorem xn_cell0 (j l : Nat) : (2 : Int32) * ((64 : Int32) * nI j + nI l) + 0 = nI (2 * (64 * j + l) + 0) := xn_cell j l 0
theorem xn_cell1 (j l : Nat) : (2 : Int32) * ((64 : Int32) * nI j + nI l) + 1 = nI (2 * (64 * j + l) + 1) := xn_cell j l 1
end X20
section Y20
variable {D : va_G} {N0 : Nat} {d m : Nat} {h : XH} {A : MS}
theorem c_M_next_b {j l : Nat} (hj : j < 8) (hl2 : l < 63) {side by0 : Int32} {set : Int64} : xV D N0 mM_next (d + 1) 54 [some (.ref m), some (.int (nI j)), some (.int side), some (.int by0), some (.long set), none, some (.int (nI l))] [] (hm m A h)
    (xEq (.returned none) (hm m (mJ (mI A 10 (2 * (64 * j + (l + 1)) + 1) (A.2.1 10 (2 * (64 * j + l) + 1) + if side = 1 then by0 else 0)) 11 (64 * j + l + 1) set) h)) := by
  repeat' first
    | refine xV.step rfl ?_
    | refine xV.mget rfl rfl ?_
  refine xV.cS rfl rfl g_mM_next_178 mM_cell_ok (Nat.le_of_ble_eq_true rfl) (Nat.le_of_ble_eq_true rfl) c_M_cell ?_
  repeat' first
    | refine xV.step rfl ?_
    | refine xV.mget rfl rfl ?_
  refine xV.cS rfl rfl g_mM_next_178 mM_cell_ok (Nat.le_of_ble_eq_true rfl) (Nat.le_of_ble_eq_true rfl) c_M_cell ?_
  refine xV.mi' (n := 1024) rfl rfl rfl (xn_cell1 j l) (by omega) ?_
  repeat' refine xV.step rfl ?_
  refine xV.br rfl (fun h1 => ?_) (fun h1 => ?_)
  · rw [if_pos h1]
    repeat' refine xV.step rfl ?_
    refine xV.si' (n := 1024) rfl rfl rfl rfl (by rw [xn_succ]; exact xn_cell1 j (l + 1)) (by omega) ?_
    repeat' first
      | refine xV.step rfl ?_
      | refine xV.mget rfl rfl ?_
    refine xV.sj' (n := 512) rfl rfl rfl rfl (by rw [xn_ix, xn_succ]) (by omega) ?_
    exact xV.vret rfl rfl ⟨rfl, rfl⟩
  · rw [if_neg h1]
    repeat' refine xV.step rfl ?_
    refine xV.si' (n := 1024) rfl rfl rfl rfl (by rw [xn_succ]; exact xn_cell1 j (l + 1)) (by omega) ?_
    repeat' first
      | refine xV.step rfl ?_
      | refine xV.mget rfl rfl ?_
    refine xV.sj' (n := 512) rfl rfl rfl rfl (by rw [xn_ix, xn_succ]) (by omega) ?_
    exact xV.vret rfl rfl ⟨rfl, rfl⟩
theorem c_M_next {j l : Nat} (hj : j < 8) (hl : A.2.1 9 j = nI l) (hl2 : l < 63) {side by0 : Int32} {set : Int64} : xV D N0 mM_next (d + 1) 0 (xargs 7 [.ref m, .int (nI j), .int side, .int by0, .long set]) [] (hm m A h) (xEq (.returned none) (hm m (mnext A j l side by0 set) h)) := by
  repeat' first
    | refine xV.step rfl ?_
    | refine xV.mget rfl rfl ?_
    | refine xV.mi rfl rfl rfl hj ?_
    | refine xV.si rfl rfl rfl rfl hj ?_
  rw [hl]
  repeat' first
    | refine xV.step rfl ?_
    | refine xV.mget rfl rfl ?_
    | refine xV.si rfl rfl rfl rfl hj ?_
  refine xV.cS rfl rfl g_mM_next_178 mM_cell_ok (Nat.le_of_ble_eq_true rfl) (Nat.le_of_ble_eq_true rfl) c_M_cell ?_
  repeat' first
    | refine xV.step rfl ?_
    | refine xV.mget rfl rfl ?_
  refine xV.cS rfl rfl g_mM_next_178 mM_cell_ok (Nat.le_of_ble_eq_true rfl) (Nat.le_of_ble_eq_true rfl) c_M_cell ?_
  refine xV.mi' (n := 1024) rfl rfl rfl (xn_cell0 j l) (by omega) ?_
  repeat' refine xV.step rfl ?_
  unfold mnext
  simp only
  rw [← xn_succ]
  refine xV.br rfl (fun h1 => ?_) (fun h1 => ?_)
  · rw [if_pos h1]
    repeat' refine xV.step rfl ?_
    refine xV.si' (n := 1024) rfl rfl rfl rfl (by rw [xn_succ]; exact xn_cell0 j (l + 1)) (by omega) ?_
    exact c_M_next_b hj hl2
  · rw [if_neg h1]
    repeat' refine xV.step rfl ?_
    refine xV.si' (n := 1024) rfl rfl rfl rfl (by rw [xn_succ]; exact xn_cell0 j (l + 1)) (by omega) ?_
    exact c_M_next_b hj hl2
end Y20
