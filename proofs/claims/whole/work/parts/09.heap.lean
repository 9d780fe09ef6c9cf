/- Part 07: the heap's rows. -/
def xct (ci : Nat) : List FieldType := xtys.getD ci []
/-- what is asked of the classes' tables, by computing -/
def xcl1 (ci : Nat) (q : vw_C) : Bool := (List.range q.2.2).all fun k => xwt ((xwis.getD ci []).getD k 0) (u_lay q.1 q.2.1 k) && ((decide (parseFieldDescriptor (q.2.1 k).2.2.1 = (xct ci)[k]?) && Nat.blt k (xct ci).length) && (List.range q.2.2).all fun j => decide (j = k ∨ (q.2.1 j).2.1 ≠ (q.2.1 k).2.1))
def xclOK : Bool := (List.range xcl.length).all fun ci => match xcl[ci]? with
  | some q => xcl1 ci q
  | none => true
theorem xcl1_of (hok : xclOK = true) {ci : Nat} {q : vw_C} (hc : xcl[ci]? = some q) : xcl1 ci q = true := by
  have h1 := List.all_eq_true.mp hok ci (List.mem_range.mpr (List.getElem?_eq_some_iff.mp hc).1)
  simp only [hc] at h1
  exact h1
theorem xcl1_k {ci : Nat} {q : vw_C} (h : xcl1 ci q = true) {k : Nat} (hk : k < q.2.2) : xW (u_lay q.1 q.2.1 k) ∧ parseFieldDescriptor (q.2.1 k).2.2.1 = (xct ci)[k]? ∧ k < (xct ci).length ∧ ∀ j, j < q.2.2 → j ≠ k → (q.2.1 j).2.1 ≠ (q.2.1 k).2.1 := by
  have h1 := List.all_eq_true.mp h k (List.mem_range.mpr hk)
  rw [Bool.and_eq_true, Bool.and_eq_true, Bool.and_eq_true] at h1
  obtain ⟨h2, ⟨h4, h7⟩, h5⟩ := h1
  refine ⟨xwt_W h2, of_decide_eq_true h4, Nat.le_of_ble_eq_true h7, fun j hj hne => ?_⟩
  have h6 := of_decide_eq_true (List.all_eq_true.mp h5 j (List.mem_range.mpr hj))
  exact h6.resolve_left hne
section X7
variable {D : va_G} {N0 : Nat} {M : XM} {d pc : Nat} {lv : XL} {st : List Value} {h : XH} {Q : Outcome → XH → Prop}
theorem xAt.kept {s : State} {a : Nat} {c : XC} {H H1 : Heap} (hh : xAt D s a c H) (he : H1[a]? = H[a]?) : xAt D s a c H1 := by
  cases c with
  | inl q =>
    obtain ⟨b, q⟩ := q
    cases b with
    | false =>
      obtain ⟨cA, e1, e2⟩ := hh
      exact ⟨cA, by rw [he]; exact e1, e2⟩
    | true =>
      obtain ⟨cl, e1, e2⟩ := hh
      exact ⟨cl, by rw [he]; exact e1, e2⟩
  | inr q =>
    obtain ⟨r, e1, e2⟩ := hh
    exact ⟨r, e1, e2.kept he⟩
theorem xget_put (h : XH) (a b : Nat) (c : XC) : xget (xput h a c) b = if b = a then some c else xget h b := rfl
theorem xget_new (h : XH) (c : XC) (n b : Nat) : xget (xnew h c n) b = if b = h.1 then some c else xget h b := rfl
theorem xHp.put {s : State} {H H1 : Heap} (hH : xHp D s N0 h H) {a : Nat} {c : XC} (hz : H1.size = H.size) (ho : ∀ q : Nat, q ≠ a → H1[q]? = H[q]?) (hc : xAt D s a c H1) (hn : N0 ≤ a) : xHp D s N0 (xput h a c) H1 := by
  refine ⟨hz.trans hH.1, fun b c2 hb => ?_, hH.2.2.1, hH.2.2.2.kept (fun q _ h2 => ho q (by omega))⟩
  rw [xget_put] at hb
  by_cases hba : b = a
  · rw [if_pos hba] at hb
    cases hb
    subst hba
    exact ⟨hc, fun _ => hn⟩
  · rw [if_neg hba] at hb
    obtain ⟨e1, e2⟩ := hH.2.1 b c2 hb
    exact ⟨e1.kept (ho b hba), e2⟩
theorem xHp.push {s : State} {H H1 : Heap} (hH : xHp D s N0 h H) {c : XC} {n : Nat} (hz : H1.size = H.size + 1) (ho : ∀ q : Nat, q < H.size → H1[q]? = H[q]?) (hc : xAt D s h.1 c H1) : xHp D s N0 (xnew h c n) H1 := by
  refine ⟨by show H1.size = h.1 + 1; rw [hz, hH.1], fun b c2 hb => ?_, Nat.le_succ_of_le hH.2.2.1, hH.2.2.2.kept (fun q h1 _ => ho q h1)⟩
  rw [xget_new] at hb
  by_cases hba : b = h.1
  · rw [if_pos hba] at hb
    cases hb
    subst hba
    exact ⟨hc, fun _ => hH.2.2.1⟩
  · rw [if_neg hba] at hb
    obtain ⟨e1, e2⟩ := hH.2.1 b c2 hb
    exact ⟨e1.kept (ho b (by rw [hH.1]; exact hH.lt hb)), e2⟩
theorem xRm.put {R : Room} {locs : List Loc} {cells slots : Nat} {h' : XH} (hR : xRm N0 R h locs cells slots) (h1 : h'.2.1 = h.2.1) (h2 : h'.2.2.1 = h.2.2.1) {a i : Nat} (ha : N0 ≤ a) : xRm N0 R h' (locs ++ [⟨a, i⟩]) cells slots := by
  obtain ⟨r1, r2, r3, r4, r5⟩ := hR
  refine ⟨fun q hq => ?_, r2, r3, by rw [h1]; exact r4, by rw [h2]; exact r5⟩
  rcases List.mem_append.mp hq with h3 | h3
  · exact r1 q h3
  · rw [List.mem_singleton] at h3
    rw [h3]; exact ha
def xfl (M : XM) (pc : Nat) : Option (Instr × Nat × Nat × Nat) := match xlook M.2.2.2.2.2 pc with
  | some (_, i, _, nx, kf, .ref ci, _) => some (i, nx, ci, kf)
  | _ => none
theorem xfl_spec {i : Instr} {nx ci kf : Nat} (hok : xOK M = true) (h : xfl M pc = some (i, nx, ci, kf)) : ∃ len wi, xchk M.1 M.2.1 (pc, i, len, nx, kf, .ref ci, wi) = true := by
  unfold xfl at h
  split at h
  · rename_i pc' i' len nx' kf' ci' wi hq
    obtain ⟨hk, hp⟩ := xOK_at hok hq
    simp only [Option.some.injEq, Prod.mk.injEq] at h hp
    obtain ⟨rfl, rfl, rfl, rfl⟩ := h
    subst hp
    exact ⟨len, wi, hk⟩
  · cases h
theorem xsame {s : State} {C O n ds : String} (hW : xWS s) (h : O = C ∨ xW (.sameField C O n ds)) : ∀ x, s.fieldFound? O n ds = some x → s.fieldFound? C n ds = some x := by
  rcases h with rfl | h
  · exact fun x hx => hx
  · exact fun x hx => u_same (hW _ h #[]) x hx
theorem xfk_spec {own : String} {wi idx ci kf : Nat} (hk : xfk wi own idx ci kf = true) : ∃ (q : vw_C) (ref : String), xcl[ci]? = some q ∧ kf < q.2.2 ∧ xW (.fieldLink own idx ref (q.2.1 kf).2.1 (q.2.1 kf).2.2.1) ∧ ∀ s : State, xWS s → ∀ x, s.fieldFound? (q.2.1 kf).1 (q.2.1 kf).2.1 (q.2.1 kf).2.2.1 = some x → s.fieldFound? ref (q.2.1 kf).2.1 (q.2.1 kf).2.2.1 = some x := by
  unfold xfk at hk
  split at hk
  · rename_i q hq
    rw [Bool.and_eq_true, Bool.or_eq_true, Bool.and_eq_true, Bool.or_eq_true] at hk
    obtain ⟨h1, ⟨h2, h3⟩ | h2⟩ := hk
    · exact ⟨q, q.1, hq, Nat.le_of_ble_eq_true h1, xwt_W h2, fun s hW => xsame hW (h3.imp of_decide_eq_true xwt_W)⟩
    · exact ⟨q, (q.2.1 kf).1, hq, Nat.le_of_ble_eq_true h1, xwt_W h2, fun s hW x hx => hx⟩
  · cases hk
theorem xV.get (hcl : xclOK = true) {idx nx ci kf a : Nat} {fs r : List Value} {v : Value} (hq : xfl M pc = some (.getfield idx, nx, ci, kf)) (ha : xget h a = some (.inr (ci, fs))) (hv : fs[kf]? = some v) (k : xV D N0 M d nx lv (v :: r) h Q) : xV D N0 M d pc lv (.ref a :: r) h Q := by
  intro p l e R s m args below meth c H locs cells slots ls C hH hR hL
  obtain ⟨len, wi, hk⟩ := xfl_spec C.2.2.2.2.2.2.2.2.2.2.2.2.1 hq
  obtain ⟨hd, rfl, hi⟩ := xchk_dec hk
  simp only [xchi, Bool.and_eq_true] at hi
  obtain ⟨hl, hf⟩ := hi
  obtain rfl := Nat.eq_of_beq_eq_true hl
  obtain ⟨q, ref, hc, hkf, hw, hsm⟩ := xfk_spec hf
  have hWS := C.2.2.2.2.2.2.2.2.1
  have hok := xcl1_of hcl hc
  have hts : ∀ w ∈ u_ws q.1 q.2.1 q.2.2, w.before args s = true := fun w hw => by
    obtain ⟨j, hj, rfl⟩ := List.mem_map.mp hw
    exact hWS _ (xcl1_k hok (List.mem_range.mp hj)).1 args
  have hP : va_P D xcl [(a, .inr (ci, fs))] H := fun j x hx => by
    have hj : j < 1 := (List.getElem?_eq_some_iff.mp hx).1
    rw [show j = 0 by omega] at hx
    cases hx
    exact (hH.2.1 a _ ha).1
  exact va_get (own := M.1.cls) (ref := ref) (ws := [(a, .inr (ci, fs))]) (tys := []) C.1 C.2.1 hts (fun w h => h) C.2.2.2.2.2.2.2.1 C.2.2.2.2.2.2.2.2.2.1 hP 0 rfl hc kf hkf (hWS _ hw args) (hsm s hWS) hv hd (k p l e R s m args below meth c H locs cells slots ls C hH hR hL)
theorem xV.put (hcl : xclOK = true) {idx nx ci kf a : Nat} {fs r : List Value} {v : Value} {ty : FieldType} (hq : xfl M pc = some (.putfield idx, nx, ci, kf)) (ha : xget h a = some (.inr (ci, fs))) (hty : (xct ci)[kf]? = some ty) (hn : narrow ty v = v) (hft : fits ty v = true) (hlf : kf < fs.length)
    (k : xV D N0 M d nx lv r (xput h a (.inr (ci, fs.set kf v))) Q) : xV D N0 M d pc lv (v :: .ref a :: r) h Q := by
  intro p l e R s m args below meth c H locs cells slots ls C hH hR hL
  obtain ⟨len, wi, hk⟩ := xfl_spec C.2.2.2.2.2.2.2.2.2.2.2.2.1 hq
  obtain ⟨hd, rfl, hi⟩ := xchk_dec hk
  simp only [xchi, Bool.and_eq_true] at hi
  obtain ⟨hl, hf, hpk⟩ := hi
  obtain rfl := Nat.eq_of_beq_eq_true hl
  obtain ⟨q, ref, hc, hkf, hw, hsm⟩ := xfk_spec hf
  have hWS := C.2.2.2.2.2.2.2.2.1
  have hok := xcl1_of hcl hc
  have hts : ∀ w ∈ u_ws q.1 q.2.1 q.2.2, w.before args s = true := fun w hw => by
    obtain ⟨j, hj, rfl⟩ := List.mem_map.mp hw
    exact hWS _ (xcl1_k hok (List.mem_range.mp hj)).1 args
  obtain ⟨hat, hN⟩ := hH.2.1 a _ ha
  have hN : N0 ≤ a := hN rfl
  have hKn := C.2.2.2.2.2.2.2.2.2.1
  have hap := va_apart (own := M.1.cls) hts (fun w h => h) (fun j => (xct ci).getD j .int) (fun j hj => by
    obtain ⟨-, g3, hlt, -⟩ := xcl1_k hok hj
    rw [g3]
    simp [List.getD_eq_getElem?_getD, hlt]) (fun x hx y hy hne => (xcl1_k hok hy).2.2.2 x hx hne) hKn hc
  obtain ⟨r1, h1, cell, q1, q2, q3, q4⟩ := hat
  have hr : r1 = q := Option.some.inj (h1.symm.trans hc)
  subst hr
  obtain ⟨hS, hfc, kC, hkC, hkind⟩ := hKn.1 ci _ hc
  obtain ⟨cf, kfl, fi, f, hfi, hsl⟩ := hS kf hkf
  have hd2 : parseFieldDescriptor (r1.2.1 kf).2.2.1 = some ty := by
    obtain ⟨-, g3, -⟩ := xcl1_k hok hkf
    rw [g3]; exact hty
  have hst := (u_facts hfc hkC (u_lays hts (fun w h => h) hkf) hfi).1
  have hlay := hts _ (u_in_lay hkf)
  have hfin : ∀ H' : Heap, H'[a]? = some (cell.setSlot f.slot v) → H'.size = H.size → (∀ q, q ≠ a → H'[q]? = H[q]?) → W p l e R s m args below meth c H' (locs ++ [⟨a, f.slot⟩]) cells slots (xEnd D N0 R s below Q) (F0 m (pc + 3) ls r) := by
    intro H' e1 e2 e3
    refine k p l e R s m args below meth c H' _ cells slots ls C (hH.put e2 e3 ?_ hN) (hR.put rfl rfl hN) hL
    rw [hsl] at e1
    exact ⟨_, hc, t_OB.to (V := updV (vp_V fs) kf v) ⟨_, e1, q2, q3, t_set q4 hap hkf v⟩ (fun j _ => vp_updV_set hlf v j)⟩
  unfold u_lay at hlay
  by_cases hF : (r1.2.1 kf).2.2.2 = true
  · rw [if_pos hF] at hlay
    have hpk2 : M.1.name = "<init>" ∧ (r1.2.1 kf).1 = M.1.cls := by
      unfold xpk at hpk
      rw [hc] at hpk
      simp only [hF] at hpk
      simpa using hpk
    have hcf : m.cls = cf := by
      obtain ⟨_, _, c', _, _, _, -, -, hf', -, -, -, hown2, -⟩ := Cond.laysFinal_spec hlay
      have e1 : c' = cf := by have := hfi.symm.trans hf'; simp at this; exact this.1.symm
      rw [hpk2.2] at hown2
      rw [← e1]; exact Option.some.inj (C.2.2.2.2.2.2.2.1.symm.trans hown2)
    have h6 := u_fits hfc hkC hkind (Or.inr hlay) hfi hd2 hn hft
    exact W.putFinK C.1 C.2.1 C.2.2.2.2.2.2.2.1 (hWS _ hw args) (hsm s hWS _ hfi) hst hcf (C.2.2.2.2.2.2.1.trans hpk2.1) (by rw [q2]; exact h6) q1 q3 (by rw [hsl]; exact k2_hasslot (q4 kf hkf)) rfl rfl hd hfin
  · rw [if_neg hF] at hlay
    have h6 := u_store hfc hkC hkind hlay hfi hd2 hn hft
    exact W.putK C.1 C.2.1 (f := f) ⟨C.2.2.2.2.2.2.2.1, hWS _ hw args, ⟨_, _, _, hsm s hWS _ hfi⟩, hst⟩ (by rw [q2]; exact h6) q1 q3 (by rw [hsl]; exact k2_hasslot (q4 kf hkf)) rfl rfl hd hfin
end X7
