/- Part 42: small methods of Channel and Promise. -/
def chF (f s : Int32) (b1 b2 pl : Nat) (la st he pu pd pa : Int32) (se : Bool) : List Value := [.int f, .int s, .ref b1, .ref b2, .ref pl, .int la, .int st, .int he, .int pu, .int pd, .int pa, .int (xB se)]
def prF (p q am : Int32) (lo : Int64) (dl mi gi : Int32) (po : Bool) : List Value := [.int p, .int q, .int am, .long lo, .int dl, .int mi, .int gi, .int (xB po)]
def isIn0 (mi gi l : Int32) : Bool := decide (mi ≤ l ∧ (gi = -1 ∨ l < gi))
section X42
variable {D : va_G} {N0 : Nat} {d a : Nat} {h : XH} {f s la st he pu pd pa p q am dl mi gi : Int32} {b1 b2 pl : Nat} {se po : Bool} {lo : Int64}
theorem c_C_joins (ha : xget h a = some (.inr (4, chF f s b1 b2 pl la st he pu pd pa se))) {n : Int32} :
    xV D N0 mC_joins d 0 (xargs 2 [.ref a, .int n]) [] h (xEq (.returned (some (.int (xB (decide (n = f ∨ n = s)))))) h) := by
  repeat' first
    | refine xV.step rfl ?_
    | refine xV.get xcl_ok rfl ha rfl ?_
    | refine xV.br rfl (fun _ => ?_) (fun _ => ?_)
  all_goals refine xV.iret rfl rfl rfl ⟨?_, rfl⟩
  all_goals first
    | exact xB1 (by simp_all)
    | exact xB0 (by simp_all)
theorem c_C_partnerOf (ha : xget h a = some (.inr (4, chF f s b1 b2 pl la st he pu pd pa se))) {n : Int32} :
    xV D N0 mC_partnerOf d 0 (xargs 2 [.ref a, .int n]) [] h (xEq (.returned (some (.int (if n = f then s else f)))) h) := by
  repeat' first
    | refine xV.step rfl ?_
    | refine xV.get xcl_ok rfl ha rfl ?_
    | refine xV.br rfl (fun _ => ?_) (fun _ => ?_)
  all_goals refine xV.iret rfl rfl rfl ⟨?_, rfl⟩
  all_goals simp_all
theorem c_C_hasState (ha : xget h a = some (.inr (4, chF f s b1 b2 pl la st he pu pd pa se))) {n : Int32} :
    xV D N0 mC_hasState d 0 (xargs 2 [.ref a, .int n]) [] h (xEq (.returned (some (.int (xB (decide (0 ≤ n ∧ n ≤ la)))))) h) := by
  repeat' first
    | refine xV.step rfl ?_
    | refine xV.get xcl_ok rfl ha rfl ?_
    | refine xV.br rfl (fun _ => ?_) (fun _ => ?_)
  all_goals refine xV.iret rfl rfl rfl ⟨?_, rfl⟩
  all_goals first
    | exact xB1 (by simp only [Int32.lt_iff_toInt_lt, Int32.le_iff_toInt_le] at *; omega)
    | exact xB0 (by simp only [Int32.lt_iff_toInt_lt, Int32.le_iff_toInt_le] at *; omega)
theorem c_C_hasRoomForState (ha : xget h a = some (.inr (4, chF f s b1 b2 pl la st he pu pd pa se))) :
    xV D N0 mC_hasRoomForState d 0 (xargs 1 [.ref a]) [] h (xEq (.returned (some (.int (xB (decide (la < 63)))))) h) := by
  repeat' first
    | refine xV.step rfl ?_
    | refine xV.get xcl_ok rfl ha rfl ?_
    | refine xV.br rfl (fun _ => ?_) (fun _ => ?_)
  all_goals refine xV.iret rfl rfl rfl ⟨?_, rfl⟩
  all_goals first
    | exact xB1 (by simp only [Int32.lt_iff_toInt_lt, Int32.le_iff_toInt_le] at *; omega)
    | exact xB0 (by simp only [Int32.lt_iff_toInt_lt, Int32.le_iff_toInt_le] at *; omega)
theorem c_C_punisher (ha : xget h a = some (.inr (4, chF f s b1 b2 pl la st he pu pd pa se))) :
    xV D N0 mC_punisher (d + 1) 0 (xargs 1 [.ref a]) [] h (xEq (.returned (some (.int (if pu = f then s else f)))) h) := by
  repeat' first
    | refine xV.step rfl ?_
    | refine xV.get xcl_ok rfl ha rfl ?_
  refine xV.cV rfl rfl ha rfl g_mC_punisher_79 mC_partnerOf_ok (Nat.le_of_ble_eq_true rfl) (Nat.le_of_ble_eq_true rfl) (c_C_partnerOf ha) ?_
  exact xV.iret rfl rfl rfl ⟨rfl, rfl⟩
def cpun (st pd la pa hg : Int32) : Bool := decide (st = 1 ∧ pd < la ∧ hg < pa + 10)
theorem c_C_isPunishable (ha : xget h a = some (.inr (4, chF f s b1 b2 pl la st he pu pd pa se))) {hg : Int32} :
    xV D N0 mC_isPunishable d 0 (xargs 2 [.ref a, .int hg]) [] h (xEq (.returned (some (.int (xB (cpun st pd la pa hg))))) h) := by
  unfold cpun
  repeat' first
    | refine xV.step rfl ?_
    | refine xV.get xcl_ok rfl ha rfl ?_
    | refine xV.br rfl (fun _ => ?_) (fun _ => ?_)
  all_goals refine xV.iret rfl rfl rfl ⟨?_, rfl⟩
  all_goals first
    | exact xB1 (by simp only [Int32.lt_iff_toInt_lt, Int32.le_iff_toInt_le, ← Int32.toInt_inj] at *; omega)
    | exact xB0 (by simp only [Int32.lt_iff_toInt_lt, Int32.le_iff_toInt_le, ← Int32.toInt_inj] at *; omega)
def cspent (st he : Int32) (se : Bool) : Int32 := if se = true ∧ he = 0 then 2 else st
theorem c_C_closeIfSpent (ha : xget h a = some (.inr (4, chF f s b1 b2 pl la st he pu pd pa se))) :
    xV D N0 mC_closeIfSpent d 0 (xargs 1 [.ref a]) [] h (fun o u => o = .returned none ∧ (u = xput h a (.inr (4, chF f s b1 b2 pl la (cspent st he se) he pu pd pa se)))) := by
  have same : cspent st he se = st → xput h a (.inr (4, chF f s b1 b2 pl la (cspent st he se) he pu pd pa se)) = h := fun e => by
    rw [e]
    refine Prod.ext rfl (Prod.ext rfl (Prod.ext rfl ?_))
    funext x
    show (if x = a then _ else h.2.2.2 x) = h.2.2.2 x
    by_cases hx : x = a
    · rw [if_pos hx, hx]; exact ha.symm
    · rw [if_neg hx]
  refine xV.step rfl ?_
  refine xV.get xcl_ok rfl ha rfl ?_
  refine xV.br rfl (fun h1 => ?_) (fun h1 => ?_)
  · exact xV.vret rfl rfl ⟨rfl, (same (by unfold cspent; rw [if_neg (fun z => by rw [xB_f h1] at z; cases z.1)])).symm⟩
  refine xV.step rfl ?_
  refine xV.get xcl_ok rfl ha rfl ?_
  refine xV.br rfl (fun h2 => ?_) (fun h2 => ?_)
  · refine xV.step rfl ?_
    refine xV.step rfl ?_
    refine xV.put xcl_ok rfl ha rfl rfl rfl (Nat.le_of_ble_eq_true rfl) ?_
    refine xV.vret rfl rfl ⟨rfl, ?_⟩
    unfold cspent
    rw [if_pos ⟨xB_t h1, h2⟩]
    rfl
  · exact xV.vret rfl rfl ⟨rfl, (same (by unfold cspent; rw [if_neg (fun z => h2 z.2)])).symm⟩
theorem c_P_isIn (ha : xget h a = some (.inr (5, prF p q am lo dl mi gi po))) {l : Int32} :
    xV D N0 mP_isIn d 0 (xargs 2 [.ref a, .int l]) [] h (xEq (.returned (some (.int (xB (isIn0 mi gi l))))) h) := by
  unfold isIn0
  repeat' first
    | refine xV.step rfl ?_
    | refine xV.get xcl_ok rfl ha rfl ?_
    | refine xV.br rfl (fun _ => ?_) (fun _ => ?_)
  all_goals refine xV.iret rfl rfl rfl ⟨?_, rfl⟩
  all_goals first
    | exact xB1 (by simp only [Int32.lt_iff_toInt_lt, Int32.le_iff_toInt_le, ← Int32.toInt_inj] at *; omega)
    | exact xB0 (by simp only [Int32.lt_iff_toInt_lt, Int32.le_iff_toInt_le, ← Int32.toInt_inj] at *; omega)
end X42
