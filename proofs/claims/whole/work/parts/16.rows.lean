/- Part 16: calls of methods whose end is known exactly. -/
/-- the end o0 with the heap h' -/
def xEq (o0 : Outcome) (h' : XH) : Outcome → XH → Prop := fun o u => o = o0 ∧ u = h'
section X16
variable {D : va_G} {N0 : Nat} {M : XM} {d pc : Nat} {lv : XL} {st : List Value} {h h' : XH} {Q : Outcome → XH → Prop}
theorem xV.cS {M2 : XM} {idx nx n : Nat} {as rest : List Value} {v : Option Value} (hq : xon M pc = some (.invokestatic idx, nx)) (hst : xsp n st [] = some (as, rest)) (hw : xcs M M2 idx n) (hok2 : xOK M2 = true) (hsz : (lg_sl as).length ≤ M2.2.2.1) (hcat : (rest.map fun v => v.category).sum + (M2.2.2.1 + 11) ≤ 64)
    (hcon : xV D N0 M2 d 0 (xargs M2.2.2.1 as) [] h (xEq (.returned v) h')) (k : xV D N0 M (d + 1) nx lv (v.toList ++ rest) h' Q) : xV D N0 M (d + 1) pc lv st h Q :=
  xV.callS hq hst hw hok2 hsz hcat hcon (fun w u hz => by obtain ⟨e1, rfl⟩ := hz; cases e1; exact k) (fun a u hz => by cases hz.1)
theorem xV.cV {M2 : XM} {idx nx n b ci : Nat} {q : vw_C} {fs as rest : List Value} {v : Option Value} (hq : xon M pc = some (.invokevirtual idx, nx)) (hst : xsp (n + 1) st [] = some (.ref b :: as, rest)) (hb : xget h b = some (.inr (ci, fs))) (hc : xcl[ci]? = some q) (hw : xcv q.1 M M2 idx n) (hok2 : xOK M2 = true) (hsz : (lg_sl (.ref b :: as)).length ≤ M2.2.2.1) (hcat : (rest.map fun v => v.category).sum + (M2.2.2.1 + 11) ≤ 64)
    (hcon : xV D N0 M2 d 0 (xargs M2.2.2.1 (.ref b :: as)) [] h (xEq (.returned v) h')) (k : xV D N0 M (d + 1) nx lv (v.toList ++ rest) h' Q) : xV D N0 M (d + 1) pc lv st h Q :=
  xV.callV hq hst hb hc hw hok2 hsz hcat hcon (fun w u hz => by obtain ⟨e1, rfl⟩ := hz; cases e1; exact k) (fun a u hz => by cases hz.1)
theorem xV.cI {M2 : XM} {idx nx n b : Nat} {as rest : List Value} (hq : xon M pc = some (.invokespecial idx, nx)) (hst : xsp (n + 1) st [] = some (.ref b :: as, rest)) (hw : xci M M2 idx n) (hok2 : xOK M2 = true) (hsz : (lg_sl (.ref b :: as)).length ≤ M2.2.2.1) (hcat : (rest.map fun v => v.category).sum + (M2.2.2.1 + 11) ≤ 64)
    (hcon : xV D N0 M2 d 0 (xargs M2.2.2.1 (.ref b :: as)) [] h (xEq (.returned none) h')) (k : xV D N0 M (d + 1) nx lv rest h' Q) : xV D N0 M (d + 1) pc lv st h Q :=
  xV.callI hq hst hw hok2 hsz hcat hcon (fun w u hz => by obtain ⟨e1, rfl⟩ := hz; cases e1; exact k) (fun a u hz => by cases hz.1)
/-- the static call threw -/
theorem xV.tS {M2 : XM} {idx nx n a : Nat} {as rest : List Value} (hq : xon M pc = some (.invokestatic idx, nx)) (hst : xsp n st [] = some (as, rest)) (hw : xcs M M2 idx n) (hok2 : xOK M2 = true) (hsz : (lg_sl as).length ≤ M2.2.2.1) (hcat : (rest.map fun v => v.category).sum + (M2.2.2.1 + 11) ≤ 64)
    (hcon : xV D N0 M2 d 0 (xargs M2.2.2.1 as) [] h (xEq (.threw a) h')) (k : xT D N0 M (d + 1) pc lv a h' Q) : xV D N0 M (d + 1) pc lv st h Q :=
  xV.callS hq hst hw hok2 hsz hcat hcon (fun w u hz => by cases hz.1) (fun b u hz => by obtain ⟨e1, rfl⟩ := hz; cases e1; exact k)
theorem xV.tV {M2 : XM} {idx nx n b ci a : Nat} {q : vw_C} {fs as rest : List Value} (hq : xon M pc = some (.invokevirtual idx, nx)) (hst : xsp (n + 1) st [] = some (.ref b :: as, rest)) (hb : xget h b = some (.inr (ci, fs))) (hc : xcl[ci]? = some q) (hw : xcv q.1 M M2 idx n) (hok2 : xOK M2 = true) (hsz : (lg_sl (.ref b :: as)).length ≤ M2.2.2.1) (hcat : (rest.map fun v => v.category).sum + (M2.2.2.1 + 11) ≤ 64)
    (hcon : xV D N0 M2 d 0 (xargs M2.2.2.1 (.ref b :: as)) [] h (xEq (.threw a) h')) (k : xT D N0 M (d + 1) pc lv a h' Q) : xV D N0 M (d + 1) pc lv st h Q :=
  xV.callV hq hst hb hc hw hok2 hsz hcat hcon (fun w u hz => by cases hz.1) (fun b u hz => by obtain ⟨e1, rfl⟩ := hz; cases e1; exact k)
/-- a private or public method of the model, on the model -/
theorem xV.cM {M2 : XM} {idx nx n m : Nat} {A : MS} {as rest : List Value} {v : Option Value} {h0 : XH} (hq : xon M pc = some (.invokevirtual idx, nx)) (hst : xsp (n + 1) st [] = some (.ref m :: as, rest)) (hw : xcv "ChannelNetModel" M M2 idx n) (hok2 : xOK M2 = true) (hsz : (lg_sl (.ref m :: as)).length ≤ M2.2.2.1) (hcat : (rest.map fun v => v.category).sum + (M2.2.2.1 + 11) ≤ 64)
    (hcon : xV D N0 M2 d 0 (xargs M2.2.2.1 (.ref m :: as)) [] (hm m A h0) (xEq (.returned v) h')) (k : xV D N0 M (d + 1) nx lv (v.toList ++ rest) h' Q) : xV D N0 M (d + 1) pc lv st (hm m A h0) Q :=
  xV.cV (q := ("ChannelNetModel", xTM, 48)) hq hst (hm_get0 m A h0) rfl hw hok2 hsz hcat hcon k
/-- the truth of a bytecode's branch as the answer -/
def xB (b : Bool) : Int32 := bif b then 1 else 0
theorem xB_true {b : Bool} (h : b = true) : xB b = 1 := by rw [h]; rfl
theorem xB_false {b : Bool} (h : b = false) : xB b = 0 := by rw [h]; rfl
theorem xB_ne {b : Bool} : xB b = 0 ↔ b = false := by cases b <;> decide
theorem xB1 {P : Prop} {i : Decidable P} (h : P) : Outcome.returned (some (.int 1)) = .returned (some (.int (xB (decide P)))) := by rw [decide_eq_true h]; rfl
theorem xB0 {P : Prop} {i : Decidable P} (h : ¬ P) : Outcome.returned (some (.int 0)) = .returned (some (.int (xB (decide P)))) := by rw [decide_eq_false h]; rfl
theorem xB_nar (b : Bool) : narrow .boolean (.int (xB b)) = .int (xB b) := by cases b <;> rfl
end X16
