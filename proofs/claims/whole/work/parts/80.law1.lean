/- Part 80: the law's helper methods, printed by wip/whole/tools/gen80.py -/
set_option maxRecDepth 100000 in
theorem w_c8 : xW (.classLink "ChannelNetLaw" 13 "java/lang/IndexOutOfBoundsException") ∧ xW (.castable "java/lang/IndexOutOfBoundsException" "java/lang/IndexOutOfBoundsException") := ⟨xW_tab (i := 160) rfl rfl, xW_tab (i := 175) rfl rfl⟩
set_option maxRecDepth 100000 in
theorem w_c9 : xW (.classLink "ChannelNetLaw" 15 "java/lang/IllegalArgumentException") ∧ xW (.castable "java/lang/IllegalArgumentException" "java/lang/IllegalArgumentException") := ⟨xW_tab (i := 161) rfl rfl, xW_tab (i := 246) rfl rfl⟩
set_option maxRecDepth 100000 in
theorem w_c10 : xW (.classLink "ChannelNetLaw" 17 "java/lang/IllegalStateException") ∧ xW (.castable "java/lang/IllegalStateException" "java/lang/IllegalStateException") := ⟨xW_tab (i := 162) rfl rfl, xW_tab (i := 265) rfl rfl⟩
/-- the number that the law gives an exception -/
def lco : List Nat → Nat → Int32
  | [], _ => 0
  | x :: l, ci => if ci = x then 1 else lco l ci + 1
/-- a helper's end: the exception's number; or 0, and what k does with the answer -/
def lEnd (cl : List Nat) (c : Option Nat) (h : XH) (Q0 : Outcome → XH → Prop) (k : Option Value → XH → XH) : Outcome → XH → Prop := fun o u => (∃ ci, c = some ci ∧ o = .returned (some (.int (lco cl ci))) ∧ u = xnew h (.inr (ci, [])) 6) ∨ (c = none ∧ ∃ v u0, Q0 (.returned v) u0 ∧ o = .returned (some (.int 0)) ∧ u = k v u0)
/-- the answer goes into the array out -/
def lOut (out : Nat) (g : Nat → Int64) (v : Option Value) (u : XH) : XH := match v with
  | some (.int x) => xput u out (.inl (false, .long, 1, .inr (.inl (vp_updL g 0 x.toInt64))))
  | some (.long x) => xput u out (.inl (false, .long, 1, .inr (.inl (vp_updL g 0 x))))
  | _ => u
section X80
variable {D : va_G} {N0 : Nat} {d b out : Nat} {h : XH} {fs : List Value} {c : Option Nat} {Q0 : Outcome → XH → Prop} {g : Nat → Int64}
theorem l_open {x0 : Int32} {x1 : Int32} {x2 : Int32} {x3 : Int32} (hb : xget h b = some (.inr (0, fs))) (hcon : xV D N0 mN_open d 0 (xargs 5 [.ref b, .int x0, .int x1, .int x2, .int x3]) [] h (xEd c h Q0)) (hQ : ∀ o u, Q0 o u → ∃ v : Int32, o = .returned (some (.int v)) ∧ xget u out = some (.inl (false, .long, 1, .inr (.inl g)))) (hci : ∀ ci, c = some ci → ci = 8 ∨ ci = 9 ∨ ci = 10) :
    xV D N0 mL_open (d + 1) 0 (xargs 7 [.ref b, .int x0, .int x1, .int x2, .int x3, .ref out]) [] h (lEnd [8, 9, 10] c h Q0 (lOut out g)) := by
  refine xV.step rfl ?_
  refine xV.step rfl ?_
  refine xV.step rfl ?_
  refine xV.step rfl ?_
  refine xV.step rfl ?_
  refine xV.step rfl ?_
  refine xV.step rfl ?_
  refine xV.callV (n := 4) rfl rfl hb rfl g_mL_open_7 mN_open_ok (Nat.le_of_ble_eq_true rfl) (Nat.le_of_ble_eq_true rfl) hcon (fun w u hz => ?_) (fun w u hz => ?_)
  · cases hc : c with
    | some ci =>
      rw [hc] at hz
      cases hz.1
    | none =>
      rw [hc] at hz
      obtain ⟨v, e1, e2⟩ := hQ _ _ hz
      cases e1
      refine xV.step rfl ?_
      refine xV.js (j := 0) rfl e2 rfl (by omega) (by omega) ?_
      refine xV.step rfl ?_
      refine xV.step rfl ?_
      exact xV.iret rfl rfl rfl (Or.inr ⟨rfl, _, u, hz, rfl, rfl⟩)
  · cases hc : c with
    | none =>
      rw [hc] at hz
      obtain ⟨v, e1, e2⟩ := hQ _ _ hz
      cases e1
    | some ci =>
      rw [hc] at hz
      obtain ⟨e1, rfl⟩ := hz
      cases e1
      obtain rfl | rfl | rfl := hci ci hc
      · refine xT.catch [] _ _ rfl new_get rfl (fun z hz => by cases hz) rfl (by decide) w_c8 ?_
        refine xV.step rfl ?_
        refine xV.step rfl ?_
        exact xV.iret rfl rfl rfl (Or.inl ⟨_, rfl, rfl, rfl⟩)
      · refine xT.catch [_] _ _ rfl new_get rfl (fun z hz => by
        rw [List.mem_singleton] at hz
        subst hz
        exact Or.inr ⟨by decide, _, w_c8.1, by decide⟩) rfl (by decide) w_c9 ?_
        refine xV.step rfl ?_
        refine xV.step rfl ?_
        exact xV.iret rfl rfl rfl (Or.inl ⟨_, rfl, rfl, rfl⟩)
      · refine xT.catch [_, _] _ _ rfl new_get rfl (fun z hz => by
        rcases List.mem_cons.mp hz with e | hz
        · subst e
          exact Or.inr ⟨by decide, _, w_c8.1, by decide⟩
        · rw [List.mem_singleton] at hz
          subst hz
          exact Or.inr ⟨by decide, _, w_c9.1, by decide⟩) rfl (by decide) w_c10 ?_
        refine xV.step rfl ?_
        refine xV.step rfl ?_
        exact xV.iret rfl rfl rfl (Or.inl ⟨_, rfl, rfl, rfl⟩)
theorem l_fees {x0 : Int32} {x1 : Int32} {x2 : Int32} {x3 : Int32} (hb : xget h b = some (.inr (0, fs))) (hcon : xV D N0 mN_fees d 0 (xargs 5 [.ref b, .int x0, .int x1, .int x2, .int x3]) [] h (xEd c h Q0)) (hQ : ∀ o u, Q0 o u → o = .returned none) (hci : ∀ ci, c = some ci → ci = 8 ∨ ci = 9) :
    xV D N0 mL_fees (d + 1) 0 (xargs 6 [.ref b, .int x0, .int x1, .int x2, .int x3]) [] h (lEnd [8, 9] c h Q0 (fun _ u => u)) := by
  refine xV.step rfl ?_
  refine xV.step rfl ?_
  refine xV.step rfl ?_
  refine xV.step rfl ?_
  refine xV.step rfl ?_
  refine xV.callV (n := 4) rfl rfl hb rfl g_mL_fees_19 mN_fees_ok (Nat.le_of_ble_eq_true rfl) (Nat.le_of_ble_eq_true rfl) hcon (fun w u hz => ?_) (fun w u hz => ?_)
  · cases hc : c with
    | some ci =>
      rw [hc] at hz
      cases hz.1
    | none =>
      rw [hc] at hz
      have e1 := hQ _ _ hz
      cases e1
      refine xV.step rfl ?_
      refine xV.step rfl ?_
      exact xV.iret rfl rfl rfl (Or.inr ⟨rfl, _, u, hz, rfl, rfl⟩)
  · cases hc : c with
    | none =>
      rw [hc] at hz
      have e1 := hQ _ _ hz
      cases e1
    | some ci =>
      rw [hc] at hz
      obtain ⟨e1, rfl⟩ := hz
      cases e1
      obtain rfl | rfl := hci ci hc
      · refine xT.catch [] _ _ rfl new_get rfl (fun z hz => by cases hz) rfl (by decide) w_c8 ?_
        refine xV.step rfl ?_
        refine xV.step rfl ?_
        exact xV.iret rfl rfl rfl (Or.inl ⟨_, rfl, rfl, rfl⟩)
      · refine xT.catch [_] _ _ rfl new_get rfl (fun z hz => by
        rw [List.mem_singleton] at hz
        subst hz
        exact Or.inr ⟨by decide, _, w_c8.1, by decide⟩) rfl (by decide) w_c9 ?_
        refine xV.step rfl ?_
        refine xV.step rfl ?_
        exact xV.iret rfl rfl rfl (Or.inl ⟨_, rfl, rfl, rfl⟩)
theorem l_tell {x0 : Int32} {x1 : Int64} (hb : xget h b = some (.inr (0, fs))) (hcon : xV D N0 mN_tell d 0 (xargs 6 [.ref b, .int x0, .long x1]) [] h (xEd c h Q0)) (hQ : ∀ o u, Q0 o u → ∃ v : Int64, o = .returned (some (.long v)) ∧ xget u out = some (.inl (false, .long, 1, .inr (.inl g)))) (hci : ∀ ci, c = some ci → ci = 8 ∨ ci = 10) :
    xV D N0 mL_tell (d + 1) 0 (xargs 6 [.ref b, .int x0, .long x1, .ref out]) [] h (lEnd [8, 10] c h Q0 (lOut out g)) := by
  refine xV.step rfl ?_
  refine xV.step rfl ?_
  refine xV.step rfl ?_
  refine xV.step rfl ?_
  refine xV.step rfl ?_
  refine xV.callV (n := 2) rfl rfl hb rfl g_mL_tell_23 mN_tell_ok (Nat.le_of_ble_eq_true rfl) (Nat.le_of_ble_eq_true rfl) hcon (fun w u hz => ?_) (fun w u hz => ?_)
  · cases hc : c with
    | some ci =>
      rw [hc] at hz
      cases hz.1
    | none =>
      rw [hc] at hz
      obtain ⟨v, e1, e2⟩ := hQ _ _ hz
      cases e1
      refine xV.js (j := 0) rfl e2 rfl (by omega) (by omega) ?_
      refine xV.step rfl ?_
      refine xV.step rfl ?_
      exact xV.iret rfl rfl rfl (Or.inr ⟨rfl, _, u, hz, rfl, rfl⟩)
  · cases hc : c with
    | none =>
      rw [hc] at hz
      obtain ⟨v, e1, e2⟩ := hQ _ _ hz
      cases e1
    | some ci =>
      rw [hc] at hz
      obtain ⟨e1, rfl⟩ := hz
      cases e1
      obtain rfl | rfl := hci ci hc
      · refine xT.catch [] _ _ rfl new_get rfl (fun z hz => by cases hz) rfl (by decide) w_c8 ?_
        refine xV.step rfl ?_
        refine xV.step rfl ?_
        exact xV.iret rfl rfl rfl (Or.inl ⟨_, rfl, rfl, rfl⟩)
      · refine xT.catch [_] _ _ rfl new_get rfl (fun z hz => by
        rw [List.mem_singleton] at hz
        subst hz
        exact Or.inr ⟨by decide, _, w_c8.1, by decide⟩) rfl (by decide) w_c10 ?_
        refine xV.step rfl ?_
        refine xV.step rfl ?_
        exact xV.iret rfl rfl rfl (Or.inl ⟨_, rfl, rfl, rfl⟩)
theorem l_knows {x0 : Int32} {x1 : Int64} (hb : xget h b = some (.inr (0, fs))) (hcon : xV D N0 mN_knows d 0 (xargs 4 [.ref b, .int x0, .long x1]) [] h (xEd c h Q0)) (hQ : ∀ o u, Q0 o u → ∃ v : Bool, o = .returned (some (.int (xB v))) ∧ xget u out = some (.inl (false, .long, 1, .inr (.inl g)))) (hci : ∀ ci, c = some ci → ci = 8) :
    xV D N0 mL_knows (d + 1) 0 (xargs 6 [.ref b, .int x0, .long x1, .ref out]) [] h (lEnd [8] c h Q0 (lOut out g)) := by
  refine xV.step rfl ?_
  refine xV.step rfl ?_
  refine xV.step rfl ?_
  refine xV.step rfl ?_
  refine xV.step rfl ?_
  refine xV.callV (n := 2) rfl rfl hb rfl g_mL_knows_27 mN_knows_ok (Nat.le_of_ble_eq_true rfl) (Nat.le_of_ble_eq_true rfl) hcon (fun w u hz => ?_) (fun w u hz => ?_)
  · cases hc : c with
    | some ci =>
      rw [hc] at hz
      cases hz.1
    | none =>
      rw [hc] at hz
      obtain ⟨v, e1, e2⟩ := hQ _ _ hz
      cases e1
      have q0 : ∀ z : Int64, (xB v).toInt64 = z → xV D N0 mL_knows (d + 1) 17 (xargs 6 [.ref b, .int x0, .long x1, .ref out]) [.long z, .int 0, .ref out] u (lEnd [8] none h Q0 (lOut out g)) := by
        intro z hzz
        refine xV.js (j := 0) rfl e2 rfl (by omega) (by omega) ?_
        refine xV.step rfl ?_
        refine xV.step rfl ?_
        refine xV.iret rfl rfl rfl (Or.inr ⟨rfl, _, u, hz, rfl, ?_⟩)
        rw [← hzz]
        rfl
      refine xV.br rfl (fun h1 => ?_) (fun h1 => ?_)
      · refine xV.step rfl ?_
        exact q0 0 (by rw [xB_f h1]; rfl)
      · refine xV.step rfl ?_
        refine xV.step rfl ?_
        exact q0 1 (by rw [xB_t h1]; rfl)
  · cases hc : c with
    | none =>
      rw [hc] at hz
      obtain ⟨v, e1, e2⟩ := hQ _ _ hz
      cases e1
    | some ci =>
      rw [hc] at hz
      obtain ⟨e1, rfl⟩ := hz
      cases e1
      obtain rfl := hci ci hc
      refine xT.catch [] _ _ rfl new_get rfl (fun z hz => by cases hz) rfl (by decide) w_c8 ?_
      refine xV.step rfl ?_
      refine xV.step rfl ?_
      exact xV.iret rfl rfl rfl (Or.inl ⟨_, rfl, rfl, rfl⟩)
theorem l_promise {x0 : Int32} {x1 : Int32} {x2 : Int32} {x3 : Int64} {x4 : Int32} (hb : xget h b = some (.inr (0, fs))) (hcon : xV D N0 mN_promise d 0 (xargs 8 [.ref b, .int x0, .int x1, .int x2, .long x3, .int x4]) [] h (xEd c h Q0)) (hQ : ∀ o u, Q0 o u → ∃ v : Int32, o = .returned (some (.int v)) ∧ xget u out = some (.inl (false, .long, 1, .inr (.inl g)))) (hci : ∀ ci, c = some ci → ci = 8 ∨ ci = 9 ∨ ci = 10) :
    xV D N0 mL_promise (d + 1) 0 (xargs 9 [.ref b, .int x0, .int x1, .int x2, .long x3, .int x4, .ref out]) [] h (lEnd [8, 9, 10] c h Q0 (lOut out g)) := by
  refine xV.step rfl ?_
  refine xV.step rfl ?_
  refine xV.step rfl ?_
  refine xV.step rfl ?_
  refine xV.step rfl ?_
  refine xV.step rfl ?_
  refine xV.step rfl ?_
  refine xV.step rfl ?_
  refine xV.callV (n := 5) rfl rfl hb rfl g_mL_promise_31 mN_promise_ok (Nat.le_of_ble_eq_true rfl) (Nat.le_of_ble_eq_true rfl) hcon (fun w u hz => ?_) (fun w u hz => ?_)
  · cases hc : c with
    | some ci =>
      rw [hc] at hz
      cases hz.1
    | none =>
      rw [hc] at hz
      obtain ⟨v, e1, e2⟩ := hQ _ _ hz
      cases e1
      refine xV.step rfl ?_
      refine xV.js (j := 0) rfl e2 rfl (by omega) (by omega) ?_
      refine xV.step rfl ?_
      refine xV.step rfl ?_
      exact xV.iret rfl rfl rfl (Or.inr ⟨rfl, _, u, hz, rfl, rfl⟩)
  · cases hc : c with
    | none =>
      rw [hc] at hz
      obtain ⟨v, e1, e2⟩ := hQ _ _ hz
      cases e1
    | some ci =>
      rw [hc] at hz
      obtain ⟨e1, rfl⟩ := hz
      cases e1
      obtain rfl | rfl | rfl := hci ci hc
      · refine xT.catch [] _ _ rfl new_get rfl (fun z hz => by cases hz) rfl (by decide) w_c8 ?_
        refine xV.step rfl ?_
        refine xV.step rfl ?_
        exact xV.iret rfl rfl rfl (Or.inl ⟨_, rfl, rfl, rfl⟩)
      · refine xT.catch [_] _ _ rfl new_get rfl (fun z hz => by
        rw [List.mem_singleton] at hz
        subst hz
        exact Or.inr ⟨by decide, _, w_c8.1, by decide⟩) rfl (by decide) w_c9 ?_
        refine xV.step rfl ?_
        refine xV.step rfl ?_
        exact xV.iret rfl rfl rfl (Or.inl ⟨_, rfl, rfl, rfl⟩)
      · refine xT.catch [_, _] _ _ rfl new_get rfl (fun z hz => by
        rcases List.mem_cons.mp hz with e | hz
        · subst e
          exact Or.inr ⟨by decide, _, w_c8.1, by decide⟩
        · rw [List.mem_singleton] at hz
          subst hz
          exact Or.inr ⟨by decide, _, w_c9.1, by decide⟩) rfl (by decide) w_c10 ?_
        refine xV.step rfl ?_
        refine xV.step rfl ?_
        exact xV.iret rfl rfl rfl (Or.inl ⟨_, rfl, rfl, rfl⟩)
theorem l_keep {x0 : Int32} {x1 : Int32} {x2 : Int64} (hb : xget h b = some (.inr (0, fs))) (hcon : xV D N0 mN_keep d 0 (xargs 9 [.ref b, .int x0, .int x1, .long x2]) [] h (xEd c h Q0)) (hQ : ∀ o u, Q0 o u → ∃ v : Int32, o = .returned (some (.int v)) ∧ xget u out = some (.inl (false, .long, 1, .inr (.inl g)))) (hci : ∀ ci, c = some ci → ci = 8 ∨ ci = 9 ∨ ci = 10) :
    xV D N0 mL_keep (d + 1) 0 (xargs 7 [.ref b, .int x0, .int x1, .long x2, .ref out]) [] h (lEnd [8, 9, 10] c h Q0 (lOut out g)) := by
  refine xV.step rfl ?_
  refine xV.step rfl ?_
  refine xV.step rfl ?_
  refine xV.step rfl ?_
  refine xV.step rfl ?_
  refine xV.step rfl ?_
  refine xV.callV (n := 3) rfl rfl hb rfl g_mL_keep_35 mN_keep_ok (Nat.le_of_ble_eq_true rfl) (Nat.le_of_ble_eq_true rfl) hcon (fun w u hz => ?_) (fun w u hz => ?_)
  · cases hc : c with
    | some ci =>
      rw [hc] at hz
      cases hz.1
    | none =>
      rw [hc] at hz
      obtain ⟨v, e1, e2⟩ := hQ _ _ hz
      cases e1
      refine xV.step rfl ?_
      refine xV.js (j := 0) rfl e2 rfl (by omega) (by omega) ?_
      refine xV.step rfl ?_
      refine xV.step rfl ?_
      exact xV.iret rfl rfl rfl (Or.inr ⟨rfl, _, u, hz, rfl, rfl⟩)
  · cases hc : c with
    | none =>
      rw [hc] at hz
      obtain ⟨v, e1, e2⟩ := hQ _ _ hz
      cases e1
    | some ci =>
      rw [hc] at hz
      obtain ⟨e1, rfl⟩ := hz
      cases e1
      obtain rfl | rfl | rfl := hci ci hc
      · refine xT.catch [] _ _ rfl new_get rfl (fun z hz => by cases hz) rfl (by decide) w_c8 ?_
        refine xV.step rfl ?_
        refine xV.step rfl ?_
        exact xV.iret rfl rfl rfl (Or.inl ⟨_, rfl, rfl, rfl⟩)
      · refine xT.catch [_] _ _ rfl new_get rfl (fun z hz => by
        rw [List.mem_singleton] at hz
        subst hz
        exact Or.inr ⟨by decide, _, w_c8.1, by decide⟩) rfl (by decide) w_c9 ?_
        refine xV.step rfl ?_
        refine xV.step rfl ?_
        exact xV.iret rfl rfl rfl (Or.inl ⟨_, rfl, rfl, rfl⟩)
      · refine xT.catch [_, _] _ _ rfl new_get rfl (fun z hz => by
        rcases List.mem_cons.mp hz with e | hz
        · subst e
          exact Or.inr ⟨by decide, _, w_c8.1, by decide⟩
        · rw [List.mem_singleton] at hz
          subst hz
          exact Or.inr ⟨by decide, _, w_c9.1, by decide⟩) rfl (by decide) w_c10 ?_
        refine xV.step rfl ?_
        refine xV.step rfl ?_
        exact xV.iret rfl rfl rfl (Or.inl ⟨_, rfl, rfl, rfl⟩)
theorem l_drop {x0 : Int32} {x1 : Int32} (hb : xget h b = some (.inr (0, fs))) (hcon : xV D N0 mN_drop d 0 (xargs 5 [.ref b, .int x0, .int x1]) [] h (xEd c h Q0)) (hQ : ∀ o u, Q0 o u → ∃ v : Int32, o = .returned (some (.int v)) ∧ xget u out = some (.inl (false, .long, 1, .inr (.inl g)))) (hci : ∀ ci, c = some ci → ci = 8 ∨ ci = 10) :
    xV D N0 mL_drop (d + 1) 0 (xargs 5 [.ref b, .int x0, .int x1, .ref out]) [] h (lEnd [8, 10] c h Q0 (lOut out g)) := by
  refine xV.step rfl ?_
  refine xV.step rfl ?_
  refine xV.step rfl ?_
  refine xV.step rfl ?_
  refine xV.step rfl ?_
  refine xV.callV (n := 2) rfl rfl hb rfl g_mL_drop_39 mN_drop_ok (Nat.le_of_ble_eq_true rfl) (Nat.le_of_ble_eq_true rfl) hcon (fun w u hz => ?_) (fun w u hz => ?_)
  · cases hc : c with
    | some ci =>
      rw [hc] at hz
      cases hz.1
    | none =>
      rw [hc] at hz
      obtain ⟨v, e1, e2⟩ := hQ _ _ hz
      cases e1
      refine xV.step rfl ?_
      refine xV.js (j := 0) rfl e2 rfl (by omega) (by omega) ?_
      refine xV.step rfl ?_
      refine xV.step rfl ?_
      exact xV.iret rfl rfl rfl (Or.inr ⟨rfl, _, u, hz, rfl, rfl⟩)
  · cases hc : c with
    | none =>
      rw [hc] at hz
      obtain ⟨v, e1, e2⟩ := hQ _ _ hz
      cases e1
    | some ci =>
      rw [hc] at hz
      obtain ⟨e1, rfl⟩ := hz
      cases e1
      obtain rfl | rfl := hci ci hc
      · refine xT.catch [] _ _ rfl new_get rfl (fun z hz => by cases hz) rfl (by decide) w_c8 ?_
        refine xV.step rfl ?_
        refine xV.step rfl ?_
        exact xV.iret rfl rfl rfl (Or.inl ⟨_, rfl, rfl, rfl⟩)
      · refine xT.catch [_] _ _ rfl new_get rfl (fun z hz => by
        rw [List.mem_singleton] at hz
        subst hz
        exact Or.inr ⟨by decide, _, w_c8.1, by decide⟩) rfl (by decide) w_c10 ?_
        refine xV.step rfl ?_
        refine xV.step rfl ?_
        exact xV.iret rfl rfl rfl (Or.inl ⟨_, rfl, rfl, rfl⟩)
theorem l_close {x0 : Int32} (hb : xget h b = some (.inr (0, fs))) (hcon : xV D N0 mN_close d 0 (xargs 3 [.ref b, .int x0]) [] h (xEd c h Q0)) (hQ : ∀ o u, Q0 o u → o = .returned none) (hci : ∀ ci, c = some ci → ci = 8 ∨ ci = 10) :
    xV D N0 mL_close (d + 1) 0 (xargs 3 [.ref b, .int x0]) [] h (lEnd [8, 10] c h Q0 (fun _ u => u)) := by
  refine xV.step rfl ?_
  refine xV.step rfl ?_
  refine xV.callV (n := 1) rfl rfl hb rfl g_mL_close_43 mN_close_ok (Nat.le_of_ble_eq_true rfl) (Nat.le_of_ble_eq_true rfl) hcon (fun w u hz => ?_) (fun w u hz => ?_)
  · cases hc : c with
    | some ci =>
      rw [hc] at hz
      cases hz.1
    | none =>
      rw [hc] at hz
      have e1 := hQ _ _ hz
      cases e1
      refine xV.step rfl ?_
      refine xV.step rfl ?_
      exact xV.iret rfl rfl rfl (Or.inr ⟨rfl, _, u, hz, rfl, rfl⟩)
  · cases hc : c with
    | none =>
      rw [hc] at hz
      have e1 := hQ _ _ hz
      cases e1
    | some ci =>
      rw [hc] at hz
      obtain ⟨e1, rfl⟩ := hz
      cases e1
      obtain rfl | rfl := hci ci hc
      · refine xT.catch [] _ _ rfl new_get rfl (fun z hz => by cases hz) rfl (by decide) w_c8 ?_
        refine xV.step rfl ?_
        refine xV.step rfl ?_
        exact xV.iret rfl rfl rfl (Or.inl ⟨_, rfl, rfl, rfl⟩)
      · refine xT.catch [_] _ _ rfl new_get rfl (fun z hz => by
        rw [List.mem_singleton] at hz
        subst hz
        exact Or.inr ⟨by decide, _, w_c8.1, by decide⟩) rfl (by decide) w_c10 ?_
        refine xV.step rfl ?_
        refine xV.step rfl ?_
        exact xV.iret rfl rfl rfl (Or.inl ⟨_, rfl, rfl, rfl⟩)
theorem l_route {x0 : Int32} {x1 : Int32} {x2 : Int32} (hb : xget h b = some (.inr (0, fs))) (hcon : xV D N0 mN_route d 0 (xargs 4 [.ref b, .int x0, .int x1, .int x2]) [] h (xEd c h Q0)) (hQ : ∀ o u, Q0 o u → ∃ v : Int32, o = .returned (some (.int v)) ∧ xget u out = some (.inl (false, .long, 1, .inr (.inl g)))) (hci : ∀ ci, c = some ci → ci = 8 ∨ ci = 9) :
    xV D N0 mL_route (d + 1) 0 (xargs 6 [.ref b, .int x0, .int x1, .int x2, .ref out]) [] h (lEnd [8, 9] c h Q0 (lOut out g)) := by
  refine xV.step rfl ?_
  refine xV.step rfl ?_
  refine xV.step rfl ?_
  refine xV.step rfl ?_
  refine xV.step rfl ?_
  refine xV.step rfl ?_
  refine xV.callV (n := 3) rfl rfl hb rfl g_mL_route_47 mN_route_ok (Nat.le_of_ble_eq_true rfl) (Nat.le_of_ble_eq_true rfl) hcon (fun w u hz => ?_) (fun w u hz => ?_)
  · cases hc : c with
    | some ci =>
      rw [hc] at hz
      cases hz.1
    | none =>
      rw [hc] at hz
      obtain ⟨v, e1, e2⟩ := hQ _ _ hz
      cases e1
      refine xV.step rfl ?_
      refine xV.js (j := 0) rfl e2 rfl (by omega) (by omega) ?_
      refine xV.step rfl ?_
      refine xV.step rfl ?_
      exact xV.iret rfl rfl rfl (Or.inr ⟨rfl, _, u, hz, rfl, rfl⟩)
  · cases hc : c with
    | none =>
      rw [hc] at hz
      obtain ⟨v, e1, e2⟩ := hQ _ _ hz
      cases e1
    | some ci =>
      rw [hc] at hz
      obtain ⟨e1, rfl⟩ := hz
      cases e1
      obtain rfl | rfl := hci ci hc
      · refine xT.catch [] _ _ rfl new_get rfl (fun z hz => by cases hz) rfl (by decide) w_c8 ?_
        refine xV.step rfl ?_
        refine xV.step rfl ?_
        exact xV.iret rfl rfl rfl (Or.inl ⟨_, rfl, rfl, rfl⟩)
      · refine xT.catch [_] _ _ rfl new_get rfl (fun z hz => by
        rw [List.mem_singleton] at hz
        subst hz
        exact Or.inr ⟨by decide, _, w_c8.1, by decide⟩) rfl (by decide) w_c9 ?_
        refine xV.step rfl ?_
        refine xV.step rfl ?_
        exact xV.iret rfl rfl rfl (Or.inl ⟨_, rfl, rfl, rfl⟩)
theorem l_hop {x0 : Int32} (hb : xget h b = some (.inr (0, fs))) (hcon : xV D N0 mN_hop d 0 (xargs 2 [.ref b, .int x0]) [] h (xEd c h Q0)) (hQ : ∀ o u, Q0 o u → ∃ v : Int32, o = .returned (some (.int v)) ∧ xget u out = some (.inl (false, .long, 1, .inr (.inl g)))) (hci : ∀ ci, c = some ci → ci = 8) :
    xV D N0 mL_hop (d + 1) 0 (xargs 4 [.ref b, .int x0, .ref out]) [] h (lEnd [8] c h Q0 (lOut out g)) := by
  refine xV.step rfl ?_
  refine xV.step rfl ?_
  refine xV.step rfl ?_
  refine xV.step rfl ?_
  refine xV.callV (n := 1) rfl rfl hb rfl g_mL_hop_51 mN_hop_ok (Nat.le_of_ble_eq_true rfl) (Nat.le_of_ble_eq_true rfl) hcon (fun w u hz => ?_) (fun w u hz => ?_)
  · cases hc : c with
    | some ci =>
      rw [hc] at hz
      cases hz.1
    | none =>
      rw [hc] at hz
      obtain ⟨v, e1, e2⟩ := hQ _ _ hz
      cases e1
      refine xV.step rfl ?_
      refine xV.js (j := 0) rfl e2 rfl (by omega) (by omega) ?_
      refine xV.step rfl ?_
      refine xV.step rfl ?_
      exact xV.iret rfl rfl rfl (Or.inr ⟨rfl, _, u, hz, rfl, rfl⟩)
  · cases hc : c with
    | none =>
      rw [hc] at hz
      obtain ⟨v, e1, e2⟩ := hQ _ _ hz
      cases e1
    | some ci =>
      rw [hc] at hz
      obtain ⟨e1, rfl⟩ := hz
      cases e1
      obtain rfl := hci ci hc
      refine xT.catch [] _ _ rfl new_get rfl (fun z hz => by cases hz) rfl (by decide) w_c8 ?_
      refine xV.step rfl ?_
      refine xV.step rfl ?_
      exact xV.iret rfl rfl rfl (Or.inl ⟨_, rfl, rfl, rfl⟩)
theorem l_pay {x0 : Int32} {x1 : Int32} {x2 : Int32} {x3 : Int64} {x4 : Int32} (hb : xget h b = some (.inr (0, fs))) (hcon : xV D N0 mN_pay d 0 (xargs 8 [.ref b, .int x0, .int x1, .int x2, .long x3, .int x4]) [] h (xEd c h Q0)) (hQ : ∀ o u, Q0 o u → ∃ v : Int32, o = .returned (some (.int v)) ∧ xget u out = some (.inl (false, .long, 1, .inr (.inl g)))) (hci : ∀ ci, c = some ci → ci = 8 ∨ ci = 9 ∨ ci = 10) :
    xV D N0 mL_pay (d + 1) 0 (xargs 9 [.ref b, .int x0, .int x1, .int x2, .long x3, .int x4, .ref out]) [] h (lEnd [8, 9, 10] c h Q0 (lOut out g)) := by
  refine xV.step rfl ?_
  refine xV.step rfl ?_
  refine xV.step rfl ?_
  refine xV.step rfl ?_
  refine xV.step rfl ?_
  refine xV.step rfl ?_
  refine xV.step rfl ?_
  refine xV.step rfl ?_
  refine xV.callV (n := 5) rfl rfl hb rfl g_mL_pay_55 mN_pay_ok (Nat.le_of_ble_eq_true rfl) (Nat.le_of_ble_eq_true rfl) hcon (fun w u hz => ?_) (fun w u hz => ?_)
  · cases hc : c with
    | some ci =>
      rw [hc] at hz
      cases hz.1
    | none =>
      rw [hc] at hz
      obtain ⟨v, e1, e2⟩ := hQ _ _ hz
      cases e1
      refine xV.step rfl ?_
      refine xV.js (j := 0) rfl e2 rfl (by omega) (by omega) ?_
      refine xV.step rfl ?_
      refine xV.step rfl ?_
      exact xV.iret rfl rfl rfl (Or.inr ⟨rfl, _, u, hz, rfl, rfl⟩)
  · cases hc : c with
    | none =>
      rw [hc] at hz
      obtain ⟨v, e1, e2⟩ := hQ _ _ hz
      cases e1
    | some ci =>
      rw [hc] at hz
      obtain ⟨e1, rfl⟩ := hz
      cases e1
      obtain rfl | rfl | rfl := hci ci hc
      · refine xT.catch [] _ _ rfl new_get rfl (fun z hz => by cases hz) rfl (by decide) w_c8 ?_
        refine xV.step rfl ?_
        refine xV.step rfl ?_
        exact xV.iret rfl rfl rfl (Or.inl ⟨_, rfl, rfl, rfl⟩)
      · refine xT.catch [_] _ _ rfl new_get rfl (fun z hz => by
        rw [List.mem_singleton] at hz
        subst hz
        exact Or.inr ⟨by decide, _, w_c8.1, by decide⟩) rfl (by decide) w_c9 ?_
        refine xV.step rfl ?_
        refine xV.step rfl ?_
        exact xV.iret rfl rfl rfl (Or.inl ⟨_, rfl, rfl, rfl⟩)
      · refine xT.catch [_, _] _ _ rfl new_get rfl (fun z hz => by
        rcases List.mem_cons.mp hz with e | hz
        · subst e
          exact Or.inr ⟨by decide, _, w_c8.1, by decide⟩
        · rw [List.mem_singleton] at hz
          subst hz
          exact Or.inr ⟨by decide, _, w_c9.1, by decide⟩) rfl (by decide) w_c10 ?_
        refine xV.step rfl ?_
        refine xV.step rfl ?_
        exact xV.iret rfl rfl rfl (Or.inl ⟨_, rfl, rfl, rfl⟩)
theorem l_step {x0 : Int32} (hb : xget h b = some (.inr (0, fs))) (hcon : xV D N0 mN_step d 0 (xargs 3 [.ref b, .int x0]) [] h (xEd c h Q0)) (hQ : ∀ o u, Q0 o u → ∃ v : Int32, o = .returned (some (.int v)) ∧ xget u out = some (.inl (false, .long, 1, .inr (.inl g)))) (hci : ∀ ci, c = some ci → ci = 8 ∨ ci = 10) :
    xV D N0 mL_step (d + 1) 0 (xargs 4 [.ref b, .int x0, .ref out]) [] h (lEnd [8, 10] c h Q0 (lOut out g)) := by
  refine xV.step rfl ?_
  refine xV.step rfl ?_
  refine xV.step rfl ?_
  refine xV.step rfl ?_
  refine xV.callV (n := 1) rfl rfl hb rfl g_mL_step_58 mN_step_ok (Nat.le_of_ble_eq_true rfl) (Nat.le_of_ble_eq_true rfl) hcon (fun w u hz => ?_) (fun w u hz => ?_)
  · cases hc : c with
    | some ci =>
      rw [hc] at hz
      cases hz.1
    | none =>
      rw [hc] at hz
      obtain ⟨v, e1, e2⟩ := hQ _ _ hz
      cases e1
      refine xV.step rfl ?_
      refine xV.js (j := 0) rfl e2 rfl (by omega) (by omega) ?_
      refine xV.step rfl ?_
      refine xV.step rfl ?_
      exact xV.iret rfl rfl rfl (Or.inr ⟨rfl, _, u, hz, rfl, rfl⟩)
  · cases hc : c with
    | none =>
      rw [hc] at hz
      obtain ⟨v, e1, e2⟩ := hQ _ _ hz
      cases e1
    | some ci =>
      rw [hc] at hz
      obtain ⟨e1, rfl⟩ := hz
      cases e1
      obtain rfl | rfl := hci ci hc
      · refine xT.catch [] _ _ rfl new_get rfl (fun z hz => by cases hz) rfl (by decide) w_c8 ?_
        refine xV.step rfl ?_
        refine xV.step rfl ?_
        exact xV.iret rfl rfl rfl (Or.inl ⟨_, rfl, rfl, rfl⟩)
      · refine xT.catch [_] _ _ rfl new_get rfl (fun z hz => by
        rw [List.mem_singleton] at hz
        subst hz
        exact Or.inr ⟨by decide, _, w_c8.1, by decide⟩) rfl (by decide) w_c10 ?_
        refine xV.step rfl ?_
        refine xV.step rfl ?_
        exact xV.iret rfl rfl rfl (Or.inl ⟨_, rfl, rfl, rfl⟩)
theorem l_payment {x0 : Int32} {x1 : Int32} (hb : xget h b = some (.inr (0, fs))) (hcon : xV D N0 mN_payment d 0 (xargs 4 [.ref b, .int x0, .int x1]) [] h (xEd c h Q0)) (hQ : ∀ o u, Q0 o u → ∃ v : Int32, o = .returned (some (.int v)) ∧ xget u out = some (.inl (false, .long, 1, .inr (.inl g)))) (hci : ∀ ci, c = some ci → ci = 8 ∨ ci = 9) :
    xV D N0 mL_payment (d + 1) 0 (xargs 5 [.ref b, .int x0, .int x1, .ref out]) [] h (lEnd [8, 9] c h Q0 (lOut out g)) := by
  refine xV.step rfl ?_
  refine xV.step rfl ?_
  refine xV.step rfl ?_
  refine xV.step rfl ?_
  refine xV.step rfl ?_
  refine xV.callV (n := 2) rfl rfl hb rfl g_mL_payment_61 mN_payment_ok (Nat.le_of_ble_eq_true rfl) (Nat.le_of_ble_eq_true rfl) hcon (fun w u hz => ?_) (fun w u hz => ?_)
  · cases hc : c with
    | some ci =>
      rw [hc] at hz
      cases hz.1
    | none =>
      rw [hc] at hz
      obtain ⟨v, e1, e2⟩ := hQ _ _ hz
      cases e1
      refine xV.step rfl ?_
      refine xV.js (j := 0) rfl e2 rfl (by omega) (by omega) ?_
      refine xV.step rfl ?_
      refine xV.step rfl ?_
      exact xV.iret rfl rfl rfl (Or.inr ⟨rfl, _, u, hz, rfl, rfl⟩)
  · cases hc : c with
    | none =>
      rw [hc] at hz
      obtain ⟨v, e1, e2⟩ := hQ _ _ hz
      cases e1
    | some ci =>
      rw [hc] at hz
      obtain ⟨e1, rfl⟩ := hz
      cases e1
      obtain rfl | rfl := hci ci hc
      · refine xT.catch [] _ _ rfl new_get rfl (fun z hz => by cases hz) rfl (by decide) w_c8 ?_
        refine xV.step rfl ?_
        refine xV.step rfl ?_
        exact xV.iret rfl rfl rfl (Or.inl ⟨_, rfl, rfl, rfl⟩)
      · refine xT.catch [_] _ _ rfl new_get rfl (fun z hz => by
        rw [List.mem_singleton] at hz
        subst hz
        exact Or.inr ⟨by decide, _, w_c8.1, by decide⟩) rfl (by decide) w_c9 ?_
        refine xV.step rfl ?_
        refine xV.step rfl ?_
        exact xV.iret rfl rfl rfl (Or.inl ⟨_, rfl, rfl, rfl⟩)
theorem l_publish {x0 : Int32} {x1 : Int32} {x2 : Int32} (hb : xget h b = some (.inr (0, fs))) (hcon : xV D N0 mN_publish d 0 (xargs 5 [.ref b, .int x0, .int x1, .int x2]) [] h (xEd c h Q0)) (hQ : ∀ o u, Q0 o u → o = .returned none) (hci : ∀ ci, c = some ci → ci = 8 ∨ ci = 10) :
    xV D N0 mL_publish (d + 1) 0 (xargs 5 [.ref b, .int x0, .int x1, .int x2]) [] h (lEnd [8, 10] c h Q0 (fun _ u => u)) := by
  refine xV.step rfl ?_
  refine xV.step rfl ?_
  refine xV.step rfl ?_
  refine xV.step rfl ?_
  refine xV.callV (n := 3) rfl rfl hb rfl g_mL_publish_64 mN_publish_ok (Nat.le_of_ble_eq_true rfl) (Nat.le_of_ble_eq_true rfl) hcon (fun w u hz => ?_) (fun w u hz => ?_)
  · cases hc : c with
    | some ci =>
      rw [hc] at hz
      cases hz.1
    | none =>
      rw [hc] at hz
      have e1 := hQ _ _ hz
      cases e1
      refine xV.step rfl ?_
      refine xV.step rfl ?_
      exact xV.iret rfl rfl rfl (Or.inr ⟨rfl, _, u, hz, rfl, rfl⟩)
  · cases hc : c with
    | none =>
      rw [hc] at hz
      have e1 := hQ _ _ hz
      cases e1
    | some ci =>
      rw [hc] at hz
      obtain ⟨e1, rfl⟩ := hz
      cases e1
      obtain rfl | rfl := hci ci hc
      · refine xT.catch [] _ _ rfl new_get rfl (fun z hz => by cases hz) rfl (by decide) w_c8 ?_
        refine xV.step rfl ?_
        refine xV.step rfl ?_
        exact xV.iret rfl rfl rfl (Or.inl ⟨_, rfl, rfl, rfl⟩)
      · refine xT.catch [_] _ _ rfl new_get rfl (fun z hz => by
        rw [List.mem_singleton] at hz
        subst hz
        exact Or.inr ⟨by decide, _, w_c8.1, by decide⟩) rfl (by decide) w_c10 ?_
        refine xV.step rfl ?_
        refine xV.step rfl ?_
        exact xV.iret rfl rfl rfl (Or.inl ⟨_, rfl, rfl, rfl⟩)
theorem l_punish {x0 : Int32} (hb : xget h b = some (.inr (0, fs))) (hcon : xV D N0 mN_punish d 0 (xargs 3 [.ref b, .int x0]) [] h (xEd c h Q0)) (hQ : ∀ o u, Q0 o u → ∃ v : Int32, o = .returned (some (.int v)) ∧ xget u out = some (.inl (false, .long, 1, .inr (.inl g)))) (hci : ∀ ci, c = some ci → ci = 8 ∨ ci = 10) :
    xV D N0 mL_punish (d + 1) 0 (xargs 4 [.ref b, .int x0, .ref out]) [] h (lEnd [8, 10] c h Q0 (lOut out g)) := by
  refine xV.step rfl ?_
  refine xV.step rfl ?_
  refine xV.step rfl ?_
  refine xV.step rfl ?_
  refine xV.callV (n := 1) rfl rfl hb rfl g_mL_punish_68 mN_punish_ok (Nat.le_of_ble_eq_true rfl) (Nat.le_of_ble_eq_true rfl) hcon (fun w u hz => ?_) (fun w u hz => ?_)
  · cases hc : c with
    | some ci =>
      rw [hc] at hz
      cases hz.1
    | none =>
      rw [hc] at hz
      obtain ⟨v, e1, e2⟩ := hQ _ _ hz
      cases e1
      refine xV.step rfl ?_
      refine xV.js (j := 0) rfl e2 rfl (by omega) (by omega) ?_
      refine xV.step rfl ?_
      refine xV.step rfl ?_
      exact xV.iret rfl rfl rfl (Or.inr ⟨rfl, _, u, hz, rfl, rfl⟩)
  · cases hc : c with
    | none =>
      rw [hc] at hz
      obtain ⟨v, e1, e2⟩ := hQ _ _ hz
      cases e1
    | some ci =>
      rw [hc] at hz
      obtain ⟨e1, rfl⟩ := hz
      cases e1
      obtain rfl | rfl := hci ci hc
      · refine xT.catch [] _ _ rfl new_get rfl (fun z hz => by cases hz) rfl (by decide) w_c8 ?_
        refine xV.step rfl ?_
        refine xV.step rfl ?_
        exact xV.iret rfl rfl rfl (Or.inl ⟨_, rfl, rfl, rfl⟩)
      · refine xT.catch [_] _ _ rfl new_get rfl (fun z hz => by
        rw [List.mem_singleton] at hz
        subst hz
        exact Or.inr ⟨by decide, _, w_c8.1, by decide⟩) rfl (by decide) w_c10 ?_
        refine xV.step rfl ?_
        refine xV.step rfl ?_
        exact xV.iret rfl rfl rfl (Or.inl ⟨_, rfl, rfl, rfl⟩)
theorem l_claim {x0 : Int32} {x1 : Int32} {x2 : Int64} (hb : xget h b = some (.inr (0, fs))) (hcon : xV D N0 mN_claim d 0 (xargs 9 [.ref b, .int x0, .int x1, .long x2]) [] h (xEd c h Q0)) (hQ : ∀ o u, Q0 o u → ∃ v : Int32, o = .returned (some (.int v)) ∧ xget u out = some (.inl (false, .long, 1, .inr (.inl g)))) (hci : ∀ ci, c = some ci → ci = 8 ∨ ci = 9 ∨ ci = 10) :
    xV D N0 mL_claim (d + 1) 0 (xargs 7 [.ref b, .int x0, .int x1, .long x2, .ref out]) [] h (lEnd [8, 9, 10] c h Q0 (lOut out g)) := by
  refine xV.step rfl ?_
  refine xV.step rfl ?_
  refine xV.step rfl ?_
  refine xV.step rfl ?_
  refine xV.step rfl ?_
  refine xV.step rfl ?_
  refine xV.callV (n := 3) rfl rfl hb rfl g_mL_claim_71 mN_claim_ok (Nat.le_of_ble_eq_true rfl) (Nat.le_of_ble_eq_true rfl) hcon (fun w u hz => ?_) (fun w u hz => ?_)
  · cases hc : c with
    | some ci =>
      rw [hc] at hz
      cases hz.1
    | none =>
      rw [hc] at hz
      obtain ⟨v, e1, e2⟩ := hQ _ _ hz
      cases e1
      refine xV.step rfl ?_
      refine xV.js (j := 0) rfl e2 rfl (by omega) (by omega) ?_
      refine xV.step rfl ?_
      refine xV.step rfl ?_
      exact xV.iret rfl rfl rfl (Or.inr ⟨rfl, _, u, hz, rfl, rfl⟩)
  · cases hc : c with
    | none =>
      rw [hc] at hz
      obtain ⟨v, e1, e2⟩ := hQ _ _ hz
      cases e1
    | some ci =>
      rw [hc] at hz
      obtain ⟨e1, rfl⟩ := hz
      cases e1
      obtain rfl | rfl | rfl := hci ci hc
      · refine xT.catch [] _ _ rfl new_get rfl (fun z hz => by cases hz) rfl (by decide) w_c8 ?_
        refine xV.step rfl ?_
        refine xV.step rfl ?_
        exact xV.iret rfl rfl rfl (Or.inl ⟨_, rfl, rfl, rfl⟩)
      · refine xT.catch [_] _ _ rfl new_get rfl (fun z hz => by
        rw [List.mem_singleton] at hz
        subst hz
        exact Or.inr ⟨by decide, _, w_c8.1, by decide⟩) rfl (by decide) w_c9 ?_
        refine xV.step rfl ?_
        refine xV.step rfl ?_
        exact xV.iret rfl rfl rfl (Or.inl ⟨_, rfl, rfl, rfl⟩)
      · refine xT.catch [_, _] _ _ rfl new_get rfl (fun z hz => by
        rcases List.mem_cons.mp hz with e | hz
        · subst e
          exact Or.inr ⟨by decide, _, w_c8.1, by decide⟩
        · rw [List.mem_singleton] at hz
          subst hz
          exact Or.inr ⟨by decide, _, w_c9.1, by decide⟩) rfl (by decide) w_c10 ?_
        refine xV.step rfl ?_
        refine xV.step rfl ?_
        exact xV.iret rfl rfl rfl (Or.inl ⟨_, rfl, rfl, rfl⟩)
theorem l_takeBack {x0 : Int32} {x1 : Int32} (hb : xget h b = some (.inr (0, fs))) (hcon : xV D N0 mN_takeBack d 0 (xargs 5 [.ref b, .int x0, .int x1]) [] h (xEd c h Q0)) (hQ : ∀ o u, Q0 o u → ∃ v : Int32, o = .returned (some (.int v)) ∧ xget u out = some (.inl (false, .long, 1, .inr (.inl g)))) (hci : ∀ ci, c = some ci → ci = 8 ∨ ci = 10) :
    xV D N0 mL_takeBack (d + 1) 0 (xargs 5 [.ref b, .int x0, .int x1, .ref out]) [] h (lEnd [8, 10] c h Q0 (lOut out g)) := by
  refine xV.step rfl ?_
  refine xV.step rfl ?_
  refine xV.step rfl ?_
  refine xV.step rfl ?_
  refine xV.step rfl ?_
  refine xV.callV (n := 2) rfl rfl hb rfl g_mL_takeBack_74 mN_takeBack_ok (Nat.le_of_ble_eq_true rfl) (Nat.le_of_ble_eq_true rfl) hcon (fun w u hz => ?_) (fun w u hz => ?_)
  · cases hc : c with
    | some ci =>
      rw [hc] at hz
      cases hz.1
    | none =>
      rw [hc] at hz
      obtain ⟨v, e1, e2⟩ := hQ _ _ hz
      cases e1
      refine xV.step rfl ?_
      refine xV.js (j := 0) rfl e2 rfl (by omega) (by omega) ?_
      refine xV.step rfl ?_
      refine xV.step rfl ?_
      exact xV.iret rfl rfl rfl (Or.inr ⟨rfl, _, u, hz, rfl, rfl⟩)
  · cases hc : c with
    | none =>
      rw [hc] at hz
      obtain ⟨v, e1, e2⟩ := hQ _ _ hz
      cases e1
    | some ci =>
      rw [hc] at hz
      obtain ⟨e1, rfl⟩ := hz
      cases e1
      obtain rfl | rfl := hci ci hc
      · refine xT.catch [] _ _ rfl new_get rfl (fun z hz => by cases hz) rfl (by decide) w_c8 ?_
        refine xV.step rfl ?_
        refine xV.step rfl ?_
        exact xV.iret rfl rfl rfl (Or.inl ⟨_, rfl, rfl, rfl⟩)
      · refine xT.catch [_] _ _ rfl new_get rfl (fun z hz => by
        rw [List.mem_singleton] at hz
        subst hz
        exact Or.inr ⟨by decide, _, w_c8.1, by decide⟩) rfl (by decide) w_c10 ?_
        refine xV.step rfl ?_
        refine xV.step rfl ?_
        exact xV.iret rfl rfl rfl (Or.inl ⟨_, rfl, rfl, rfl⟩)
theorem l_settle {x0 : Int32} (hb : xget h b = some (.inr (0, fs))) (hcon : xV D N0 mN_settle d 0 (xargs 3 [.ref b, .int x0]) [] h (xEd c h Q0)) (hQ : ∀ o u, Q0 o u → ∃ v : Int32, o = .returned (some (.int v)) ∧ xget u out = some (.inl (false, .long, 1, .inr (.inl g)))) (hci : ∀ ci, c = some ci → ci = 8 ∨ ci = 10) :
    xV D N0 mL_settle (d + 1) 0 (xargs 4 [.ref b, .int x0, .ref out]) [] h (lEnd [8, 10] c h Q0 (lOut out g)) := by
  refine xV.step rfl ?_
  refine xV.step rfl ?_
  refine xV.step rfl ?_
  refine xV.step rfl ?_
  refine xV.callV (n := 1) rfl rfl hb rfl g_mL_settle_77 mN_settle_ok (Nat.le_of_ble_eq_true rfl) (Nat.le_of_ble_eq_true rfl) hcon (fun w u hz => ?_) (fun w u hz => ?_)
  · cases hc : c with
    | some ci =>
      rw [hc] at hz
      cases hz.1
    | none =>
      rw [hc] at hz
      obtain ⟨v, e1, e2⟩ := hQ _ _ hz
      cases e1
      refine xV.step rfl ?_
      refine xV.js (j := 0) rfl e2 rfl (by omega) (by omega) ?_
      refine xV.step rfl ?_
      refine xV.step rfl ?_
      exact xV.iret rfl rfl rfl (Or.inr ⟨rfl, _, u, hz, rfl, rfl⟩)
  · cases hc : c with
    | none =>
      rw [hc] at hz
      obtain ⟨v, e1, e2⟩ := hQ _ _ hz
      cases e1
    | some ci =>
      rw [hc] at hz
      obtain ⟨e1, rfl⟩ := hz
      cases e1
      obtain rfl | rfl := hci ci hc
      · refine xT.catch [] _ _ rfl new_get rfl (fun z hz => by cases hz) rfl (by decide) w_c8 ?_
        refine xV.step rfl ?_
        refine xV.step rfl ?_
        exact xV.iret rfl rfl rfl (Or.inl ⟨_, rfl, rfl, rfl⟩)
      · refine xT.catch [_] _ _ rfl new_get rfl (fun z hz => by
        rw [List.mem_singleton] at hz
        subst hz
        exact Or.inr ⟨by decide, _, w_c8.1, by decide⟩) rfl (by decide) w_c10 ?_
        refine xV.step rfl ?_
        refine xV.step rfl ?_
        exact xV.iret rfl rfl rfl (Or.inl ⟨_, rfl, rfl, rfl⟩)
theorem l_watch {x0 : Int32} {x1 : Int32} (hb : xget h b = some (.inr (0, fs))) (hcon : xV D N0 mN_watch d 0 (xargs 3 [.ref b, .int x0, .int x1]) [] h (xEd c h Q0)) (hQ : ∀ o u, Q0 o u → o = .returned none) (hci : ∀ ci, c = some ci → ci = 8) :
    xV D N0 mL_watch (d + 1) 0 (xargs 4 [.ref b, .int x0, .int x1]) [] h (lEnd [8] c h Q0 (fun _ u => u)) := by
  refine xV.step rfl ?_
  refine xV.step rfl ?_
  refine xV.step rfl ?_
  refine xV.callV (n := 2) rfl rfl hb rfl g_mL_watch_80 mN_watch_ok (Nat.le_of_ble_eq_true rfl) (Nat.le_of_ble_eq_true rfl) hcon (fun w u hz => ?_) (fun w u hz => ?_)
  · cases hc : c with
    | some ci =>
      rw [hc] at hz
      cases hz.1
    | none =>
      rw [hc] at hz
      have e1 := hQ _ _ hz
      cases e1
      refine xV.step rfl ?_
      refine xV.step rfl ?_
      exact xV.iret rfl rfl rfl (Or.inr ⟨rfl, _, u, hz, rfl, rfl⟩)
  · cases hc : c with
    | none =>
      rw [hc] at hz
      have e1 := hQ _ _ hz
      cases e1
    | some ci =>
      rw [hc] at hz
      obtain ⟨e1, rfl⟩ := hz
      cases e1
      obtain rfl := hci ci hc
      refine xT.catch [] _ _ rfl new_get rfl (fun z hz => by cases hz) rfl (by decide) w_c8 ?_
      refine xV.step rfl ?_
      refine xV.step rfl ?_
      exact xV.iret rfl rfl rfl (Or.inl ⟨_, rfl, rfl, rfl⟩)
theorem l_grow {x0 : Int32} (hb : xget h b = some (.inr (0, fs))) (hcon : xV D N0 mN_grow d 0 (xargs 4 [.ref b, .int x0]) [] h (xEd c h Q0)) (hQ : ∀ o u, Q0 o u → ∃ v : Int32, o = .returned (some (.int v)) ∧ xget u out = some (.inl (false, .long, 1, .inr (.inl g)))) (hci : ∀ ci, c = some ci → ci = 9) :
    xV D N0 mL_grow (d + 1) 0 (xargs 4 [.ref b, .int x0, .ref out]) [] h (lEnd [9] c h Q0 (lOut out g)) := by
  refine xV.step rfl ?_
  refine xV.step rfl ?_
  refine xV.step rfl ?_
  refine xV.step rfl ?_
  refine xV.callV (n := 1) rfl rfl hb rfl g_mL_grow_84 mN_grow_ok (Nat.le_of_ble_eq_true rfl) (Nat.le_of_ble_eq_true rfl) hcon (fun w u hz => ?_) (fun w u hz => ?_)
  · cases hc : c with
    | some ci =>
      rw [hc] at hz
      cases hz.1
    | none =>
      rw [hc] at hz
      obtain ⟨v, e1, e2⟩ := hQ _ _ hz
      cases e1
      refine xV.step rfl ?_
      refine xV.js (j := 0) rfl e2 rfl (by omega) (by omega) ?_
      refine xV.step rfl ?_
      refine xV.step rfl ?_
      exact xV.iret rfl rfl rfl (Or.inr ⟨rfl, _, u, hz, rfl, rfl⟩)
  · cases hc : c with
    | none =>
      rw [hc] at hz
      obtain ⟨v, e1, e2⟩ := hQ _ _ hz
      cases e1
    | some ci =>
      rw [hc] at hz
      obtain ⟨e1, rfl⟩ := hz
      cases e1
      obtain rfl := hci ci hc
      refine xT.catch [] _ _ rfl new_get rfl (fun z hz => by cases hz) rfl (by decide) w_c9 ?_
      refine xV.step rfl ?_
      refine xV.step rfl ?_
      exact xV.iret rfl rfl rfl (Or.inl ⟨_, rfl, rfl, rfl⟩)
theorem l_coins {x0 : Int32} (hb : xget h b = some (.inr (0, fs))) (hcon : xV D N0 mN_coins d 0 (xargs 2 [.ref b, .int x0]) [] h (xEd c h Q0)) (hQ : ∀ o u, Q0 o u → ∃ v : Int32, o = .returned (some (.int v)) ∧ xget u out = some (.inl (false, .long, 1, .inr (.inl g)))) (hci : ∀ ci, c = some ci → ci = 8) :
    xV D N0 mL_coins (d + 1) 0 (xargs 4 [.ref b, .int x0, .ref out]) [] h (lEnd [8] c h Q0 (lOut out g)) := by
  refine xV.step rfl ?_
  refine xV.step rfl ?_
  refine xV.step rfl ?_
  refine xV.step rfl ?_
  refine xV.callV (n := 1) rfl rfl hb rfl g_mL_coins_87 mN_coins_ok (Nat.le_of_ble_eq_true rfl) (Nat.le_of_ble_eq_true rfl) hcon (fun w u hz => ?_) (fun w u hz => ?_)
  · cases hc : c with
    | some ci =>
      rw [hc] at hz
      cases hz.1
    | none =>
      rw [hc] at hz
      obtain ⟨v, e1, e2⟩ := hQ _ _ hz
      cases e1
      refine xV.step rfl ?_
      refine xV.js (j := 0) rfl e2 rfl (by omega) (by omega) ?_
      refine xV.step rfl ?_
      refine xV.step rfl ?_
      exact xV.iret rfl rfl rfl (Or.inr ⟨rfl, _, u, hz, rfl, rfl⟩)
  · cases hc : c with
    | none =>
      rw [hc] at hz
      obtain ⟨v, e1, e2⟩ := hQ _ _ hz
      cases e1
    | some ci =>
      rw [hc] at hz
      obtain ⟨e1, rfl⟩ := hz
      cases e1
      obtain rfl := hci ci hc
      refine xT.catch [] _ _ rfl new_get rfl (fun z hz => by cases hz) rfl (by decide) w_c8 ?_
      refine xV.step rfl ?_
      refine xV.step rfl ?_
      exact xV.iret rfl rfl rfl (Or.inl ⟨_, rfl, rfl, rfl⟩)
theorem l_channel {x0 : Int32} {x1 : Int32} (hb : xget h b = some (.inr (0, fs))) (hcon : xV D N0 mN_channel d 0 (xargs 4 [.ref b, .int x0, .int x1]) [] h (xEd c h Q0)) (hQ : ∀ o u, Q0 o u → ∃ v : Int32, o = .returned (some (.int v)) ∧ xget u out = some (.inl (false, .long, 1, .inr (.inl g)))) (hci : ∀ ci, c = some ci → ci = 8 ∨ ci = 9) :
    xV D N0 mL_channel (d + 1) 0 (xargs 5 [.ref b, .int x0, .int x1, .ref out]) [] h (lEnd [8, 9] c h Q0 (lOut out g)) := by
  refine xV.step rfl ?_
  refine xV.step rfl ?_
  refine xV.step rfl ?_
  refine xV.step rfl ?_
  refine xV.step rfl ?_
  refine xV.callV (n := 2) rfl rfl hb rfl g_mL_channel_90 mN_channel_ok (Nat.le_of_ble_eq_true rfl) (Nat.le_of_ble_eq_true rfl) hcon (fun w u hz => ?_) (fun w u hz => ?_)
  · cases hc : c with
    | some ci =>
      rw [hc] at hz
      cases hz.1
    | none =>
      rw [hc] at hz
      obtain ⟨v, e1, e2⟩ := hQ _ _ hz
      cases e1
      refine xV.step rfl ?_
      refine xV.js (j := 0) rfl e2 rfl (by omega) (by omega) ?_
      refine xV.step rfl ?_
      refine xV.step rfl ?_
      exact xV.iret rfl rfl rfl (Or.inr ⟨rfl, _, u, hz, rfl, rfl⟩)
  · cases hc : c with
    | none =>
      rw [hc] at hz
      obtain ⟨v, e1, e2⟩ := hQ _ _ hz
      cases e1
    | some ci =>
      rw [hc] at hz
      obtain ⟨e1, rfl⟩ := hz
      cases e1
      obtain rfl | rfl := hci ci hc
      · refine xT.catch [] _ _ rfl new_get rfl (fun z hz => by cases hz) rfl (by decide) w_c8 ?_
        refine xV.step rfl ?_
        refine xV.step rfl ?_
        exact xV.iret rfl rfl rfl (Or.inl ⟨_, rfl, rfl, rfl⟩)
      · refine xT.catch [_] _ _ rfl new_get rfl (fun z hz => by
        rw [List.mem_singleton] at hz
        subst hz
        exact Or.inr ⟨by decide, _, w_c8.1, by decide⟩) rfl (by decide) w_c9 ?_
        refine xV.step rfl ?_
        refine xV.step rfl ?_
        exact xV.iret rfl rfl rfl (Or.inl ⟨_, rfl, rfl, rfl⟩)
theorem l_state {x0 : Int32} {x1 : Int32} {x2 : Int32} (hb : xget h b = some (.inr (0, fs))) (hcon : xV D N0 mN_state d 0 (xargs 5 [.ref b, .int x0, .int x1, .int x2]) [] h (xEd c h Q0)) (hQ : ∀ o u, Q0 o u → ∃ v : Int32, o = .returned (some (.int v)) ∧ xget u out = some (.inl (false, .long, 1, .inr (.inl g)))) (hci : ∀ ci, c = some ci → ci = 8 ∨ ci = 9) :
    xV D N0 mL_state (d + 1) 0 (xargs 6 [.ref b, .int x0, .int x1, .int x2, .ref out]) [] h (lEnd [8, 9] c h Q0 (lOut out g)) := by
  refine xV.step rfl ?_
  refine xV.step rfl ?_
  refine xV.step rfl ?_
  refine xV.step rfl ?_
  refine xV.step rfl ?_
  refine xV.step rfl ?_
  refine xV.callV (n := 3) rfl rfl hb rfl g_mL_state_93 mN_state_ok (Nat.le_of_ble_eq_true rfl) (Nat.le_of_ble_eq_true rfl) hcon (fun w u hz => ?_) (fun w u hz => ?_)
  · cases hc : c with
    | some ci =>
      rw [hc] at hz
      cases hz.1
    | none =>
      rw [hc] at hz
      obtain ⟨v, e1, e2⟩ := hQ _ _ hz
      cases e1
      refine xV.step rfl ?_
      refine xV.js (j := 0) rfl e2 rfl (by omega) (by omega) ?_
      refine xV.step rfl ?_
      refine xV.step rfl ?_
      exact xV.iret rfl rfl rfl (Or.inr ⟨rfl, _, u, hz, rfl, rfl⟩)
  · cases hc : c with
    | none =>
      rw [hc] at hz
      obtain ⟨v, e1, e2⟩ := hQ _ _ hz
      cases e1
    | some ci =>
      rw [hc] at hz
      obtain ⟨e1, rfl⟩ := hz
      cases e1
      obtain rfl | rfl := hci ci hc
      · refine xT.catch [] _ _ rfl new_get rfl (fun z hz => by cases hz) rfl (by decide) w_c8 ?_
        refine xV.step rfl ?_
        refine xV.step rfl ?_
        exact xV.iret rfl rfl rfl (Or.inl ⟨_, rfl, rfl, rfl⟩)
      · refine xT.catch [_] _ _ rfl new_get rfl (fun z hz => by
        rw [List.mem_singleton] at hz
        subst hz
        exact Or.inr ⟨by decide, _, w_c8.1, by decide⟩) rfl (by decide) w_c9 ?_
        refine xV.step rfl ?_
        refine xV.step rfl ?_
        exact xV.iret rfl rfl rfl (Or.inl ⟨_, rfl, rfl, rfl⟩)
theorem l_made {x0 : Int32} {x1 : Int32} {x2 : Int32} (hb : xget h b = some (.inr (0, fs))) (hcon : xV D N0 mN_made d 0 (xargs 6 [.ref b, .int x0, .int x1, .int x2]) [] h (xEd c h Q0)) (hQ : ∀ o u, Q0 o u → ∃ v : Int32, o = .returned (some (.int v)) ∧ xget u out = some (.inl (false, .long, 1, .inr (.inl g)))) (hci : ∀ ci, c = some ci → ci = 8 ∨ ci = 9) :
    xV D N0 mL_made (d + 1) 0 (xargs 6 [.ref b, .int x0, .int x1, .int x2, .ref out]) [] h (lEnd [8, 9] c h Q0 (lOut out g)) := by
  refine xV.step rfl ?_
  refine xV.step rfl ?_
  refine xV.step rfl ?_
  refine xV.step rfl ?_
  refine xV.step rfl ?_
  refine xV.step rfl ?_
  refine xV.callV (n := 3) rfl rfl hb rfl g_mL_made_96 mN_made_ok (Nat.le_of_ble_eq_true rfl) (Nat.le_of_ble_eq_true rfl) hcon (fun w u hz => ?_) (fun w u hz => ?_)
  · cases hc : c with
    | some ci =>
      rw [hc] at hz
      cases hz.1
    | none =>
      rw [hc] at hz
      obtain ⟨v, e1, e2⟩ := hQ _ _ hz
      cases e1
      refine xV.step rfl ?_
      refine xV.js (j := 0) rfl e2 rfl (by omega) (by omega) ?_
      refine xV.step rfl ?_
      refine xV.step rfl ?_
      exact xV.iret rfl rfl rfl (Or.inr ⟨rfl, _, u, hz, rfl, rfl⟩)
  · cases hc : c with
    | none =>
      rw [hc] at hz
      obtain ⟨v, e1, e2⟩ := hQ _ _ hz
      cases e1
    | some ci =>
      rw [hc] at hz
      obtain ⟨e1, rfl⟩ := hz
      cases e1
      obtain rfl | rfl := hci ci hc
      · refine xT.catch [] _ _ rfl new_get rfl (fun z hz => by cases hz) rfl (by decide) w_c8 ?_
        refine xV.step rfl ?_
        refine xV.step rfl ?_
        exact xV.iret rfl rfl rfl (Or.inl ⟨_, rfl, rfl, rfl⟩)
      · refine xT.catch [_] _ _ rfl new_get rfl (fun z hz => by
        rw [List.mem_singleton] at hz
        subst hz
        exact Or.inr ⟨by decide, _, w_c8.1, by decide⟩) rfl (by decide) w_c9 ?_
        refine xV.step rfl ?_
        refine xV.step rfl ?_
        exact xV.iret rfl rfl rfl (Or.inl ⟨_, rfl, rfl, rfl⟩)
end X80
