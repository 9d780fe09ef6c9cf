/- Part 21: promises of the model. -/
def bk (k : Int32) : Int64 := (1 : Int64) <<< (k.toInt64 &&& 63)
def madd (A : MS) (j l k : Nat) (side amount : Int32) (lock : Int64) (dl : Int32) : MS :=
  mnext (mI (mJ (mI (mI (mI A 13 j (nI k + 1)) 14 (64 * j + k) side) 15 (64 * j + k) amount) 16 (64 * j + k) lock) 17 (64 * j + k) dl) j l side (-amount) (A.2.2 11 (64 * j + l) ||| bk (nI k))
def mdel (A : MS) (j l k : Nat) : Int64 := A.2.2 11 (64 * j + l) &&& (bk (nI k) ^^^ (-1))
def mdrop (A : MS) (j l k : Nat) : MS := mnext A j l (A.2.1 14 (64 * j + k)) (A.2.1 15 (64 * j + k)) (mdel A j l k)
def mkept (A : MS) (j l k : Nat) : MS := mnext A j l (1 - A.2.1 14 (64 * j + k)) (A.2.1 15 (64 * j + k)) (mdel A j l k)
def mkeep (A : MS) (j l k K : Nat) : MS := mlearn (mkept A j l k) K (A.2.2 16 (64 * j + k)) ((1 : Int32) <<< (mnode A j (A.2.1 14 (64 * j + k)) &&& 31))
section X21
variable {D : va_G} {N0 : Nat} {d m : Nat} {h : XH} {A : MS}
theorem c_M_addPromise {j l k : Nat} (hj : j < 8) (hl : A.2.1 9 j = nI l) (hl2 : l < 63) (hk : A.2.1 13 j = nI k) (hk2 : k < 64) {side amount dl : Int32} {lock : Int64} :
    xV D N0 mM_addPromise (d + 2) 0 (xargs 8 [.ref m, .int (nI j), .int side, .int amount, .long lock, .int dl]) [] (hm m A h) (xEq (.returned (some (.int (nI k)))) (hm m (madd A j l k side amount lock dl) h)) := by
  have hl5 : (mI (mJ (mI (mI (mI A 13 j (nI k + 1)) 14 (64 * j + k) side) 15 (64 * j + k) amount) 16 (64 * j + k) lock) 17 (64 * j + k) dl).2.1 9 j = nI l := hl
  repeat' first
    | refine xV.step rfl ?_
    | refine xV.mget rfl rfl ?_
    | refine xV.mi rfl rfl rfl hj ?_
  rw [hk]
  refine xV.si rfl rfl rfl rfl hj ?_
  repeat' first
    | refine xV.step rfl ?_
    | refine xV.mget rfl rfl ?_
    | refine xV.si' (n := 512) (j := 64 * j + k) rfl rfl rfl rfl (xn_ix j k) (by omega) ?_
    | refine xV.sj' (n := 512) (j := 64 * j + k) rfl rfl rfl rfl (xn_ix j k) (by omega) ?_
  refine xV.cM rfl rfl g_mM_addPromise_182 mM_now_ok (Nat.le_of_ble_eq_true rfl) (Nat.le_of_ble_eq_true rfl) (c_M_now hj hl5 (by omega)) ?_
  repeat' refine xV.step rfl ?_
  refine xV.cM rfl rfl g_mM_addPromise_186 mM_next_ok (Nat.le_of_ble_eq_true rfl) (Nat.le_of_ble_eq_true rfl) (c_M_next hj hl5 hl2) ?_
  repeat' refine xV.step rfl ?_
  exact xV.iret rfl rfl rfl ⟨rfl, rfl⟩
theorem c_M_dropPromise {j l k : Nat} (hj : j < 8) (hl : A.2.1 9 j = nI l) (hl2 : l < 63) (hk2 : k < 64) :
    xV D N0 mM_dropPromise (d + 2) 0 (xargs 3 [.ref m, .int (nI j), .int (nI k)]) [] (hm m A h) (xEq (.returned none) (hm m (mdrop A j l k) h)) := by
  repeat' first
    | refine xV.step rfl ?_
    | refine xV.mget rfl rfl ?_
    | refine xV.mi' (n := 512) rfl rfl rfl (xn_ix j k) (by omega) ?_
  refine xV.cM rfl rfl g_mM_dropPromise_182 mM_now_ok (Nat.le_of_ble_eq_true rfl) (Nat.le_of_ble_eq_true rfl) (c_M_now (l := l) hj hl (by omega)) ?_
  repeat' refine xV.step rfl ?_
  refine xV.cM rfl rfl g_mM_dropPromise_186 mM_next_ok (Nat.le_of_ble_eq_true rfl) (Nat.le_of_ble_eq_true rfl) (c_M_next (l := l) hj hl hl2) ?_
  exact xV.vret rfl rfl ⟨rfl, rfl⟩
theorem c_M_keepPromise {j l k K : Nat} (hj : j < 8) (hl : A.2.1 9 j = nI l) (hl2 : l < 63) (hk2 : k < 64) (hK : A.1 25 = nI K) (hK2 : K ≤ 24) (hr : mhas A K (A.2.2 16 (64 * j + k)) = true) :
    xV D N0 mM_keepPromise (d + 2) 0 (xargs 4 [.ref m, .int (nI j), .int (nI k)]) [] (hm m A h) (xEq (.returned none) (hm m (mkeep A j l k K) h)) := by
  repeat' first
    | refine xV.step rfl ?_
    | refine xV.mget rfl rfl ?_
    | refine xV.mi' (n := 512) rfl rfl rfl (xn_ix j k) (by omega) ?_
  refine xV.cM rfl rfl g_mM_keepPromise_182 mM_now_ok (Nat.le_of_ble_eq_true rfl) (Nat.le_of_ble_eq_true rfl) (c_M_now (l := l) hj hl (by omega)) ?_
  repeat' refine xV.step rfl ?_
  refine xV.cM rfl rfl g_mM_keepPromise_186 mM_next_ok (Nat.le_of_ble_eq_true rfl) (Nat.le_of_ble_eq_true rfl) (c_M_next (l := l) hj hl hl2) ?_
  repeat' first
    | refine xV.step rfl ?_
    | refine xV.mget rfl rfl ?_
    | refine xV.mj' (n := 512) rfl rfl rfl (xn_ix j k) (by omega) ?_
  refine xV.cM rfl rfl g_mM_keepPromise_192 mM_nodeOf_ok (Nat.le_of_ble_eq_true rfl) (Nat.le_of_ble_eq_true rfl) (c_M_nodeOf hj) ?_
  repeat' refine xV.step rfl ?_
  refine xV.cM rfl rfl g_mM_keepPromise_170 mM_learn_ok (Nat.le_of_ble_eq_true rfl) (Nat.le_of_ble_eq_true rfl) (c_M_learn (A := mkept A j l k) (K := K) hK hK2 hr) ?_
  exact xV.vret rfl rfl ⟨rfl, rfl⟩
end X21
