/- Part 41: the class's checks: they throw or go on. -/
def xsup : List String := ["java/lang/RuntimeException", "java/lang/Exception"]
def xin (w : Jvm.Cond) : Bool := decide (w ∈ lw_tbl) && xgw w
theorem xin_W {l : List Jvm.Cond} (h : l.all xin = true) : ∀ w ∈ l, xW w := fun w hw => by
  have h1 := List.all_eq_true.mp h w hw
  unfold xin at h1
  rw [Bool.and_eq_true] at h1
  exact ⟨of_decide_eq_true h1.1, h1.2⟩
theorem thr_io : (vx_atS "ChannelNet" 289 "java/lang/IndexOutOfBoundsException" xsup).all xin = true := by decide +kernel
theorem thr_ia : (vx_atS "ChannelNet" 174 "java/lang/IllegalArgumentException" xsup).all xin = true := by decide +kernel
theorem thr_is : (vx_atS "ChannelNet" 296 "java/lang/IllegalStateException" xsup).all xin = true := by decide +kernel
theorem lnk_io : [Jvm.Cond.classLink "ChannelNet" 285 "java/lang/IndexOutOfBoundsException", .initialized "java/lang/IndexOutOfBoundsException"].all xin = true := by decide +kernel
theorem lnk_ia : [Jvm.Cond.classLink "ChannelNet" 170 "java/lang/IllegalArgumentException", .initialized "java/lang/IllegalArgumentException"].all xin = true := by decide +kernel
theorem lnk_is : [Jvm.Cond.classLink "ChannelNet" 292 "java/lang/IllegalStateException", .initialized "java/lang/IllegalStateException"].all xin = true := by decide +kernel
/-- the end of a check: on, or the exception ci thrown -/
def xCk (b : Bool) (ci : Nat) (h : XH) : Outcome → XH → Prop := fun o u => (b = true ∧ o = .returned none ∧ u = h) ∨ (b = false ∧ o = .threw h.1 ∧ u = xnew h (.inr (ci, [])) 6)
def xrm (h : XH) : Prop := h.2.1 + 1 ≤ xCmax ∧ h.2.2.1 + 6 ≤ xSmax
/-- an exception's end, or another one -/
def xEd (c : Option Nat) (h : XH) (Q0 : Outcome → XH → Prop) : Outcome → XH → Prop := fun o u => match c with
  | none => Q0 o u
  | some ci => o = .threw h.1 ∧ u = xnew h (.inr (ci, [])) 6
section W41
variable {D : va_G} {N0 : Nat} {M : XM} {d pc : Nat} {lv : XL} {h : XH} {Q : Outcome → XH → Prop}
theorem xV.ck {M2 : XM} {idx nx ci : Nat} {b : Bool} {v : Int32} {rest : List Value} (hq : xon M pc = some (.invokestatic idx, nx)) (hw : xcs M M2 idx 1) (hok2 : xOK M2 = true) (hsz : (lg_sl [.int v]).length ≤ M2.2.2.1) (hcat : (rest.map fun v => v.category).sum + (M2.2.2.1 + 11) ≤ 64)
    (hout : (tableOf M.2.2.2.2.1).all (fun x => !covers x pc) = true) (hcon : xV D N0 M2 d 0 (xargs M2.2.2.1 [.int v]) [] h (xCk b ci h)) (k2 : b = false → Q (.threw h.1) (xnew h (.inr (ci, [])) 6)) (k1 : b = true → xV D N0 M (d + 1) nx lv rest h Q) : xV D N0 M (d + 1) pc lv (.int v :: rest) h Q :=
  xV.callS (as := [.int v]) (rest := rest) hq rfl hw hok2 hsz hcat hcon (fun w u hz => by
    rcases hz with ⟨hb, e, rfl⟩ | ⟨_, e, _⟩
    · cases e; exact k1 hb
    · cases e) (fun a u hz => by
    rcases hz with ⟨_, e, _⟩ | ⟨hb, e, rfl⟩
    · cases e
    · cases e; exact xT.out hout (k2 hb))
end W41
section X41
variable {D : va_G} {N0 : Nat} {d : Nat} {h : XH}
theorem c_N_checkIndex {b : Bool} (hr : xrm h) : xV D N0 mN_checkIndex (d + 6) 0 (xargs 1 [.int (xB b)]) [] h (xCk b 8 h) := by
  refine xV.step rfl ?_
  refine xV.br rfl (fun h1 => ?_) (fun h1 => ?_)
  · have hb : b = false := xB_f h1
    refine xV.throw (names := xsup) (ci := 8) (text := "there is no such thing") rfl rfl (Or.inr rfl) rfl rfl rfl (by decide +kernel) (by decide +kernel) (xin_W lnk_io _ List.mem_cons_self) (xin_W lnk_io _ (List.mem_cons_of_mem _ List.mem_cons_self)) (xin_W thr_io) rfl (by decide) rfl (by simp [xsup]) (Nat.le_of_ble_eq_true rfl) hr.1 hr.2 (Or.inr ⟨hb, rfl, rfl⟩)
  · exact xV.vret rfl rfl (Or.inl ⟨xB_t h1, rfl, rfl⟩)
theorem c_N_checkArgument {b : Bool} (hr : xrm h) : xV D N0 mN_checkArgument (d + 6) 0 (xargs 1 [.int (xB b)]) [] h (xCk b 9 h) := by
  refine xV.step rfl ?_
  refine xV.br rfl (fun h1 => ?_) (fun h1 => ?_)
  · have hb : b = false := xB_f h1
    refine xV.throw (names := xsup) (ci := 9) (text := "a number is not as said") rfl rfl (Or.inr rfl) rfl rfl rfl (by decide +kernel) (by decide +kernel) (xin_W lnk_ia _ List.mem_cons_self) (xin_W lnk_ia _ (List.mem_cons_of_mem _ List.mem_cons_self)) (xin_W thr_ia) rfl (by decide) rfl (by simp [xsup]) (Nat.le_of_ble_eq_true rfl) hr.1 hr.2 (Or.inr ⟨hb, rfl, rfl⟩)
  · exact xV.vret rfl rfl (Or.inl ⟨xB_t h1, rfl, rfl⟩)
theorem c_N_checkState {b : Bool} (hr : xrm h) : xV D N0 mN_checkState (d + 6) 0 (xargs 1 [.int (xB b)]) [] h (xCk b 10 h) := by
  refine xV.step rfl ?_
  refine xV.br rfl (fun h1 => ?_) (fun h1 => ?_)
  · have hb : b = false := xB_f h1
    refine xV.throw (names := xsup) (ci := 10) (text := "it can't be done as things are") rfl rfl (Or.inr rfl) rfl rfl rfl (by decide +kernel) (by decide +kernel) (xin_W lnk_is _ List.mem_cons_self) (xin_W lnk_is _ (List.mem_cons_of_mem _ List.mem_cons_self)) (xin_W thr_is) rfl (by decide) rfl (by simp [xsup]) (Nat.le_of_ble_eq_true rfl) hr.1 hr.2 (Or.inr ⟨hb, rfl, rfl⟩)
  · exact xV.vret rfl rfl (Or.inl ⟨xB_t h1, rfl, rfl⟩)
theorem c_N_lockOf {s : Int64} : xV D N0 mN_lockOf d 0 (xargs 4 [.long s]) [] h (xEq (.returned (some (.long (lk s)))) h) := by
  repeat' refine xV.step rfl ?_
  exact xV.lret rfl rfl ⟨rfl, rfl⟩
theorem c_N_checkNode {v : Int32} (hr : xrm h) : xV D N0 mN_checkNode (d + 7) 0 (xargs 1 [.int v]) [] h (xCk (nd v) 8 h) := by
  have go : ∀ b : Bool, nd v = b → xV D N0 mN_checkNode (d + 7) 15 (xargs 1 [.int v]) [.int (xB b)] h (xCk (nd v) 8 h) := fun b hb => by
    refine xV.ck rfl g_mN_checkNode_106 mN_checkIndex_ok (Nat.le_of_ble_eq_true rfl) (Nat.le_of_ble_eq_true rfl) rfl (c_N_checkIndex (b := b) hr) (fun z => Or.inr ⟨by rw [hb]; exact z, rfl, rfl⟩) (fun z => ?_)
    exact xV.vret rfl rfl (Or.inl ⟨by rw [hb]; exact z, rfl, rfl⟩)
  refine xV.step rfl ?_
  refine xV.br rfl (fun h1 => ?_) (fun h1 => ?_)
  · refine xV.step rfl ?_
    refine go false (decide_eq_false ?_)
    simp only [Int32.lt_iff_toInt_lt, Int32.le_iff_toInt_le] at *
    omega
  repeat' refine xV.step rfl ?_
  refine xV.br rfl (fun h2 => ?_) (fun h2 => ?_)
  · refine xV.step rfl ?_
    refine go false (decide_eq_false ?_)
    simp only [Int32.lt_iff_toInt_lt, Int32.le_iff_toInt_le] at *
    have e5 : (5 : Int32).toInt = 5 := rfl
    have e6 : (6 : Int32).toInt = 6 := rfl
    omega
  · refine xV.step rfl ?_
    refine xV.step rfl ?_
    refine go true (decide_eq_true ?_)
    simp only [Int32.lt_iff_toInt_lt, Int32.le_iff_toInt_le] at *
    have e5 : (5 : Int32).toInt = 5 := rfl
    have e6 : (6 : Int32).toInt = 6 := rfl
    omega
def eEnds (f t a : Int32) : Option Nat := if nd f = true ∧ nd t = true then (if ispr f t a = true then none else some 9) else some 8
theorem c_N_checkEnds {f t a : Int32} (hr : xrm h) : xV D N0 mN_checkEnds (d + 8) 0 (xargs 3 [.int f, .int t, .int a]) [] h (xEd (eEnds f t a) h (xEq (.returned none) h)) := by
  have ex : ∀ ci, eEnds f t a = some ci → xEd (eEnds f t a) h (xEq (.returned none) h) (.threw h.1) (xnew h (.inr (ci, [])) 6) := fun ci hz => by
    rw [hz]; exact ⟨rfl, rfl⟩
  refine xV.step rfl ?_
  refine xV.ck rfl g_mN_checkEnds_58 mN_checkNode_ok (Nat.le_of_ble_eq_true rfl) (Nat.le_of_ble_eq_true rfl) rfl (c_N_checkNode hr) (fun z => ex 8 (by unfold eEnds; rw [if_neg (fun y => by rw [z] at y; cases y.1)])) (fun z1 => ?_)
  refine xV.step rfl ?_
  refine xV.ck rfl g_mN_checkEnds_58 mN_checkNode_ok (Nat.le_of_ble_eq_true rfl) (Nat.le_of_ble_eq_true rfl) rfl (c_N_checkNode hr) (fun z => ex 8 (by unfold eEnds; rw [if_neg (fun y => by rw [z] at y; cases y.2)])) (fun z2 => ?_)
  have g2 : ∀ b : Bool, ispr f t a = b → f ≠ t → xV D N0 mN_checkEnds (d + 8) 38 (xargs 3 [.int f, .int t, .int a]) [.int (xB b)] h (xEd (eEnds f t a) h (xEq (.returned none) h)) := fun b hb hne => by
    refine xV.ck rfl g_mN_checkEnds_62 mN_checkArgument_ok (Nat.le_of_ble_eq_true rfl) (Nat.le_of_ble_eq_true rfl) rfl (c_N_checkArgument (b := b) hr) (fun z => ex 9 (by unfold eEnds; rw [if_pos ⟨z1, z2⟩, if_neg (by rw [hb, z]; decide)])) (fun z => ?_)
    refine xV.vret rfl rfl ?_
    rw [show eEnds f t a = none by unfold eEnds; rw [if_pos ⟨z1, z2⟩, if_pos (by rw [hb, z])]]
    exact ⟨rfl, rfl⟩
  have g1 : ∀ b : Bool, decide (f ≠ t) = b → xV D N0 mN_checkEnds (d + 8) 18 (xargs 3 [.int f, .int t, .int a]) [.int (xB b)] h (xEd (eEnds f t a) h (xEq (.returned none) h)) := fun b hb => by
    refine xV.ck rfl g_mN_checkEnds_62 mN_checkArgument_ok (Nat.le_of_ble_eq_true rfl) (Nat.le_of_ble_eq_true rfl) rfl (c_N_checkArgument (b := b) hr) (fun z => ex 9 ?_) (fun z => ?_)
    · have hne : ¬ f ≠ t := of_decide_eq_false (hb.trans z)
      unfold eEnds
      rw [if_pos ⟨z1, z2⟩, if_neg (fun y => hne (of_decide_eq_true y).1)]
    have hne : f ≠ t := of_decide_eq_true (hb.trans z)
    repeat' refine xV.step rfl ?_
    refine xV.br rfl (fun h3 => ?_) (fun h3 => ?_)
    · refine xV.step rfl ?_
      exact g2 false (decide_eq_false (fun y => by
        have := y.2.1
        simp only [Int32.lt_iff_toInt_lt, Int32.le_iff_toInt_le] at *
        omega)) hne
    repeat' refine xV.step rfl ?_
    refine xV.br rfl (fun h4 => ?_) (fun h4 => ?_)
    · refine xV.step rfl ?_
      exact g2 false (decide_eq_false (fun y => by
        have := y.2.2
        simp only [Int32.lt_iff_toInt_lt, Int32.le_iff_toInt_le] at *
        omega)) hne
    · refine xV.step rfl ?_
      refine xV.step rfl ?_
      exact g2 true (decide_eq_true ⟨hne, by simp only [Int32.lt_iff_toInt_lt, Int32.le_iff_toInt_le] at *; omega, by simp only [Int32.lt_iff_toInt_lt, Int32.le_iff_toInt_le] at *; omega⟩) hne
  repeat' refine xV.step rfl ?_
  refine xV.br rfl (fun h1 => ?_) (fun h1 => ?_)
  · refine xV.step rfl ?_
    exact g1 false (decide_eq_false (fun y => y h1))
  · refine xV.step rfl ?_
    refine xV.step rfl ?_
    exact g1 true (decide_eq_true h1)
end X41
