/- Part 08: arrays, new objects. -/
def xon (M : XM) (pc : Nat) : Option (Instr × Nat) := match xlook M.2.2.2.2.2 pc with
  | some (_, i, _, nx, _, _, _) => some (i, nx)
  | none => none
section X8
variable {D : va_G} {N0 : Nat} {M : XM} {d pc : Nat} {lv : XL} {st : List Value} {h : XH} {Q : Outcome → XH → Prop}
theorem xon_spec {i : Instr} {nx : Nat} (hok : xOK M = true) (h : xon M pc = some (i, nx)) : ∃ len tg cv wi, xchk M.1 M.2.1 (pc, i, len, nx, tg, cv, wi) = true := by
  unfold xon at h
  split at h
  · rename_i pc' i' len nx' tg cv wi hq
    obtain ⟨hk, hp⟩ := xOK_at hok hq
    simp only [Option.some.injEq, Prod.mk.injEq] at h hp
    obtain ⟨rfl, rfl⟩ := h
    subst hp
    exact ⟨len, tg, cv, wi, hk⟩
  · cases h
theorem xin_size {i : Int32} {n : Nat} (hin : vp_in i n) (cA : ClassId) (f : Nat → Value) : ¬ (i < 0 ∨ (arrV cA n f).slots.size ≤ i.toNatClampNeg) := by
  rw [arrV_size]; exact hin
theorem xin_lt {i : Int32} {n : Nat} (hin : vp_in i n) : i.toNatClampNeg < n := Nat.not_le.mp fun q => hin (Or.inr q)
/-- what can be read of an array, new or old -/
theorem xAt.rd {s : State} {H : Heap} {a : Nat} {b : Bool} {ty : FieldType} {x : vp_A} (hh : xAt D s a (.inl (b, ty, x)) H) : ∃ cl : Cell, H[a]? = some cl ∧ cl.slots = (vp_cell cl.cls x).slots ∧ cl.vm ≠ .unknown ∧ s.isArrayOf cl ty := by
  cases b with
  | true => exact hh
  | false =>
    obtain ⟨cA, h1, h2, -⟩ := hh
    obtain ⟨n, f | f | f | f | f⟩ := x
    · exact ⟨_, h1, rfl, (fun q => by cases q), h2 n (fun j => .int (f j))⟩
    · exact ⟨_, h1, rfl, (fun q => by cases q), h2 n (fun j => .long (f j))⟩
    · exact ⟨_, h1, rfl, (fun q => by cases q), h2 n (fun j => .float (f j))⟩
    · exact ⟨_, h1, rfl, (fun q => by cases q), h2 n (fun j => .double (f j))⟩
    · exact ⟨_, h1, rfl, (fun q => by cases q), h2 n (fun j => va_rf (f j))⟩
theorem xV.alen {a nx : Nat} {b : Bool} {ty : FieldType} {x : vp_A} {r : List Value} (hq : xon M pc = some (.arraylength, nx)) (ha : xget h a = some (.inl (b, ty, x))) (k : xV D N0 M d nx lv (.int (Int32.ofNat x.1) :: r) h Q) : xV D N0 M d pc lv (.ref a :: r) h Q := by
  intro p l e R s m args below meth c H locs cells slots ls C hH hR hL
  obtain ⟨len, tg, cv, wi, hk⟩ := xon_spec C.2.2.2.2.2.2.2.2.2.2.2.2.1 hq
  obtain ⟨hd, rfl, hi⟩ := xchk_dec hk
  obtain rfl := Nat.eq_of_beq_eq_true hi
  obtain ⟨cl, h1, h2, h3, h4⟩ := (hH.2.1 a _ ha).1.rd
  have kk := k p l e R s m args below meth c H locs cells slots ls C hH hR hL
  refine W.alen (n := Int32.ofNat x.1) C.1 C.2.1 h1 h4 ?_ rfl rfl hd kk
  rw [h2]
  obtain ⟨n, f | f | f | f | f⟩ := x
  · rw [vp_cell_i, arrV_size] <;> rfl
  · rw [vp_cell_l, arrV_size] <;> rfl
  · rw [vp_cell_f, arrV_size] <;> rfl
  · rw [vp_cell_d, arrV_size] <;> rfl
  · rw [vp_cell_q, arrV_size] <;> rfl
theorem xV.iald {a n nx : Nat} {b : Bool} {f : Nat → Int32} {i : Int32} {r : List Value} (hq : xon M pc = some (.iaload, nx)) (ha : xget h a = some (.inl (b, .int, n, .inl f))) (hin : vp_in i n) (k : xV D N0 M d nx lv (.int (f i.toNatClampNeg) :: r) h Q) : xV D N0 M d pc lv (.int i :: .ref a :: r) h Q := by
  intro p l e R s m args below meth c H locs cells slots ls C hH hR hL
  obtain ⟨len, tg, cv, wi, hk⟩ := xon_spec C.2.2.2.2.2.2.2.2.2.2.2.2.1 hq
  obtain ⟨hd, rfl, hi⟩ := xchk_dec hk
  obtain rfl := Nat.eq_of_beq_eq_true hi
  obtain ⟨cl, h1, h2, h3, h4⟩ := (hH.2.1 a _ ha).1.rd
  exact W.iald (v := .int (f i.toNatClampNeg)) C.1 C.2.1 h1 h4 h3 (by rw [h2]; exact xin_size hin cl.cls _) (by rw [h2]; show (arrV _ _ _).slots[_]? = _; rw [arrV_read _ _ (xin_lt hin)]) rfl rfl hd (k p l e R s m args below meth c H locs cells slots ls C hH hR hL)
theorem xV.zald {a n nx : Nat} {b : Bool} {f : Nat → Int32} {i : Int32} {r : List Value} (hq : xon M pc = some (.baload, nx)) (ha : xget h a = some (.inl (b, .boolean, n, .inl f))) (hin : vp_in i n) (k : xV D N0 M d nx lv (.int (f i.toNatClampNeg) :: r) h Q) : xV D N0 M d pc lv (.int i :: .ref a :: r) h Q := by
  intro p l e R s m args below meth c H locs cells slots ls C hH hR hL
  obtain ⟨len, tg, cv, wi, hk⟩ := xon_spec C.2.2.2.2.2.2.2.2.2.2.2.2.1 hq
  obtain ⟨hd, rfl, hi⟩ := xchk_dec hk
  obtain rfl := Nat.eq_of_beq_eq_true hi
  obtain ⟨cl, h1, h2, h3, h4⟩ := (hH.2.1 a _ ha).1.rd
  exact W.zald (v := .int (f i.toNatClampNeg)) C.1 C.2.1 h1 h4 h3 (by rw [h2]; exact xin_size hin cl.cls _) (by rw [h2]; show (arrV _ _ _).slots[_]? = _; rw [arrV_read _ _ (xin_lt hin)]) rfl rfl hd (k p l e R s m args below meth c H locs cells slots ls C hH hR hL)
theorem xV.lald {a n nx : Nat} {b : Bool} {f : Nat → Int64} {i : Int32} {r : List Value} (hq : xon M pc = some (.laload, nx)) (ha : xget h a = some (.inl (b, .long, n, .inr (.inl f)))) (hin : vp_in i n) (k : xV D N0 M d nx lv (.long (f i.toNatClampNeg) :: r) h Q) : xV D N0 M d pc lv (.int i :: .ref a :: r) h Q := by
  intro p l e R s m args below meth c H locs cells slots ls C hH hR hL
  obtain ⟨len, tg, cv, wi, hk⟩ := xon_spec C.2.2.2.2.2.2.2.2.2.2.2.2.1 hq
  obtain ⟨hd, rfl, hi⟩ := xchk_dec hk
  obtain rfl := Nat.eq_of_beq_eq_true hi
  obtain ⟨cl, h1, h2, h3, h4⟩ := (hH.2.1 a _ ha).1.rd
  exact W.lald (v := .long (f i.toNatClampNeg)) C.1 C.2.1 h1 h4 h3 (by rw [h2]; exact xin_size hin cl.cls _) (by rw [h2]; show (arrV _ _ _).slots[_]? = _; rw [arrV_read _ _ (xin_lt hin)]) rfl rfl hd (k p l e R s m args below meth c H locs cells slots ls C hH hR hL)
theorem xV.aald {a n nx : Nat} {b : Bool} {E : String} {f : Nat → Option Nat} {i : Int32} {r : List Value} (hq : xon M pc = some (.aaload, nx)) (ha : xget h a = some (.inl (b, .object E, n, .inr (.inr (.inr (.inr f)))))) (hin : vp_in i n) (k : xV D N0 M d nx lv (va_rf (f i.toNatClampNeg) :: r) h Q) : xV D N0 M d pc lv (.int i :: .ref a :: r) h Q := by
  intro p l e R s m args below meth c H locs cells slots ls C hH hR hL
  obtain ⟨len, tg, cv, wi, hk⟩ := xon_spec C.2.2.2.2.2.2.2.2.2.2.2.2.1 hq
  obtain ⟨hd, rfl, hi⟩ := xchk_dec hk
  obtain rfl := Nat.eq_of_beq_eq_true hi
  obtain ⟨cl, h1, h2, h3, h4⟩ := (hH.2.1 a _ ha).1.rd
  exact W.aald (v := va_rf (f i.toNatClampNeg)) (ty := .object E) C.1 C.2.1 h1 h4 rfl h3 (by rw [h2]; exact xin_size hin cl.cls _) (by rw [h2]; show (arrV _ _ _).slots[_]? = _; rw [arrV_read _ _ (xin_lt hin)]) rfl rfl hd (k p l e R s m args below meth c H locs cells slots ls C hH hR hL)
theorem xupd_int (f : Nat → Int32) (j : Nat) (x : Int32) : updV (fun k => Value.int (f k)) j (.int x) = fun k => Value.int (upd f j x k) := by
  funext q
  by_cases hq : q = j
  · subst hq; simp [updV, upd]
  · simp [updV, upd, hq]
theorem xupd_long (f : Nat → Int64) (j : Nat) (x : Int64) : updV (fun k => Value.long (f k)) j (.long x) = fun k => Value.long (vp_updL f j x k) := by
  funext q
  by_cases hq : q = j
  · subst hq; simp [updV, vp_updL]
  · simp [updV, vp_updL, hq]
theorem xupd_ref (f : Nat → Option Nat) (j : Nat) (x : Option Nat) : updV (fun k => va_rf (f k)) j (va_rf x) = fun k => va_rf (va_up f j x k) := by
  funext q
  by_cases hq : q = j
  · subst hq; simp [updV, va_up]
  · simp [updV, va_up, hq]
theorem xV.iast {a n nx : Nat} {f : Nat → Int32} {i x : Int32} {r : List Value} (hq : xon M pc = some (.iastore, nx)) (ha : xget h a = some (.inl (false, .int, n, .inl f))) (hin : vp_in i n) (k : xV D N0 M d nx lv r (xput h a (.inl (false, .int, n, .inl (upd f i.toNatClampNeg x)))) Q) : xV D N0 M d pc lv (.int x :: .int i :: .ref a :: r) h Q := by
  intro p l e R s m args below meth c H locs cells slots ls C hH hR hL
  obtain ⟨len, tg, cv, wi, hk⟩ := xon_spec C.2.2.2.2.2.2.2.2.2.2.2.2.1 hq
  obtain ⟨hd, rfl, hi⟩ := xchk_dec hk
  obtain rfl := Nat.eq_of_beq_eq_true hi
  obtain ⟨⟨cA, h1, h2, h3⟩, hN⟩ := hH.2.1 a _ ha
  have hN : N0 ≤ a := hN rfl
  refine W.iast C.1 C.2.1 h1 (h2 n (fun j => .int (f j))) (fun q => by cases q) (xin_size hin cA _) rfl rfl hd fun H1 e1 z oq => ?_
  refine k p l e R s m args below meth c H1 _ cells slots ls C (hH.put z oq ⟨cA, ?_, h2, h3⟩ hN) (hR.put rfl rfl hN) hL
  rw [e1]
  simp only [vp_cell_i, arrV_store, xupd_int]
theorem xV.zast {a n nx : Nat} {f : Nat → Int32} {i x : Int32} {r : List Value} (hq : xon M pc = some (.bastore, nx)) (ha : xget h a = some (.inl (false, .boolean, n, .inl f))) (hin : vp_in i n) (hx : narrow .boolean (.int x) = .int x) (k : xV D N0 M d nx lv r (xput h a (.inl (false, .boolean, n, .inl (upd f i.toNatClampNeg x)))) Q) : xV D N0 M d pc lv (.int x :: .int i :: .ref a :: r) h Q := by
  intro p l e R s m args below meth c H locs cells slots ls C hH hR hL
  obtain ⟨len, tg, cv, wi, hk⟩ := xon_spec C.2.2.2.2.2.2.2.2.2.2.2.2.1 hq
  obtain ⟨hd, rfl, hi⟩ := xchk_dec hk
  obtain rfl := Nat.eq_of_beq_eq_true hi
  obtain ⟨⟨cA, h1, h2, h3⟩, hN⟩ := hH.2.1 a _ ha
  have hN : N0 ≤ a := hN rfl
  refine W.zast C.1 C.2.1 h1 (h2 n (fun j => .int (f j))) (fun q => by cases q) (xin_size hin cA _) rfl rfl hd fun H1 e1 z oq => ?_
  refine k p l e R s m args below meth c H1 _ cells slots ls C (hH.put z oq ⟨cA, ?_, h2, h3⟩ hN) (hR.put rfl rfl hN) hL
  rw [e1, hx]
  simp only [vp_cell_i, arrV_store, xupd_int]
theorem xV.last {a n nx : Nat} {f : Nat → Int64} {i : Int32} {x : Int64} {r : List Value} (hq : xon M pc = some (.lastore, nx)) (ha : xget h a = some (.inl (false, .long, n, .inr (.inl f)))) (hin : vp_in i n) (k : xV D N0 M d nx lv r (xput h a (.inl (false, .long, n, .inr (.inl (vp_updL f i.toNatClampNeg x))))) Q) : xV D N0 M d pc lv (.long x :: .int i :: .ref a :: r) h Q := by
  intro p l e R s m args below meth c H locs cells slots ls C hH hR hL
  obtain ⟨len, tg, cv, wi, hk⟩ := xon_spec C.2.2.2.2.2.2.2.2.2.2.2.2.1 hq
  obtain ⟨hd, rfl, hi⟩ := xchk_dec hk
  obtain rfl := Nat.eq_of_beq_eq_true hi
  obtain ⟨⟨cA, h1, h2, h3⟩, hN⟩ := hH.2.1 a _ ha
  have hN : N0 ≤ a := hN rfl
  refine W.last C.1 C.2.1 h1 (h2 n (fun j => .long (f j))) (fun q => by cases q) (xin_size hin cA _) rfl rfl hd fun H1 e1 z oq => ?_
  refine k p l e R s m args below meth c H1 _ cells slots ls C (hH.put z oq ⟨cA, ?_, h2, h3⟩ hN) (hR.put rfl rfl hN) hL
  rw [e1]
  simp only [vp_cell_l, arrV_store, xupd_long]
theorem xRm.new {R : Room} {locs : List Loc} {cells slots n : Nat} {c : XC} (hR : xRm N0 R h locs cells slots) (h1 : h.2.1 + 1 ≤ xCmax) (h2 : h.2.2.1 + n ≤ xSmax) : cells + 1 ≤ R.cells ∧ slots + n ≤ R.slots ∧ xRm N0 R (xnew h c n) locs (cells + 1) (slots + n) := by
  obtain ⟨r1, r2, r3, r4, r5⟩ := hR
  refine ⟨by omega, by omega, r1, by omega, by omega, ?_, ?_⟩
  · show xCmax + (cells + 1) ≤ R.cells + (h.2.1 + 1)
    omega
  · show xSmax + (slots + n) ≤ R.slots + (h.2.2.1 + n)
    omega
end X8
