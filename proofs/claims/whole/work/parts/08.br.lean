/- Part 06: branches, returns. -/
def xbr (q : XI) (st : List Value) : Option (Prop × Nat × Nat × List Value) := match q with
  | (_, i, _, nx, tg, _, _) => match i with
    | .ifCond .eq _ => xI1 st fun x r => some (x = 0, tg, nx, r)
    | .ifCond .ne _ => xI1 st fun x r => some (x = 0, nx, tg, r)
    | .ifCond .lt _ => xI1 st fun x r => some (x < 0, tg, nx, r)
    | .ifCond .ge _ => xI1 st fun x r => some (0 ≤ x, tg, nx, r)
    | .ifCond .gt _ => xI1 st fun x r => some (0 < x, tg, nx, r)
    | .ifCond .le _ => xI1 st fun x r => some (x ≤ 0, tg, nx, r)
    | .if_icmp .eq _ => xI2 st fun x y r => some (x = y, tg, nx, r)
    | .if_icmp .ne _ => xI2 st fun x y r => some (x = y, nx, tg, r)
    | .if_icmp .lt _ => xI2 st fun x y r => some (x < y, tg, nx, r)
    | .if_icmp .ge _ => xI2 st fun x y r => some (y ≤ x, tg, nx, r)
    | .if_icmp .gt _ => xI2 st fun x y r => some (y < x, tg, nx, r)
    | .if_icmp .le _ => xI2 st fun x y r => some (x ≤ y, tg, nx, r)
    | .if_acmp .eq _ => match st with
      | .ref b :: .ref a :: r => some (a = b, tg, nx, r)
      | _ => none
    | .if_acmp .ne _ => match st with
      | .ref b :: .ref a :: r => some (a = b, nx, tg, r)
      | _ => none
    | .ifnull _ => match st with
      | .ref _ :: r => some (False, tg, nx, r)
      | .null :: r => some (True, tg, nx, r)
      | _ => none
    | .ifnonnull _ => match st with
      | .ref _ :: r => some (True, tg, nx, r)
      | .null :: r => some (False, tg, nx, r)
      | _ => none
    | _ => none
section XB
variable {p : Program} {l : Launch} {e : Env} {R : Room} {s : State} {m : MethodId} {args : Array Value} {below : List Frame} {meth : Method} {c : Code} {H : Heap} {locs : List Loc} {cells slots : Nat} {Q : State → Prop}
set_option maxRecDepth 100000 in
set_option maxHeartbeats 4000000 in
theorem xbr_W (hexec : p.tables.exec = Jvm.exec) {cc : ByteArray} (hb : c.code = cc) {y : MethodName}
    {q : XI} (hq : xchk y cc q = true) {st st' : List Value} {P : Prop} {t1 t2 : Nat} {ls : Array Slot} (hs : xbr q st = some (P, t1, t2, st'))
    (k1 : P → W p l e R s m args below meth c H locs cells slots Q (F0 m t1 ls st')) (k2 : ¬ P → W p l e R s m args below meth c H locs cells slots Q (F0 m t2 ls st')) : W p l e R s m args below meth c H locs cells slots Q (F0 m q.1 ls st) := by
  obtain ⟨pc, i, len, nx, tg, cv, wi⟩ := q
  unfold xchk at hq
  rw [Bool.and_eq_true, Bool.and_eq_true] at hq
  obtain ⟨hd0, hn0, hi⟩ := hq
  have hd : decode cc pc = .ok (i, len) := of_decide_eq_true hd0
  have hn : nx = pc + len := Nat.eq_of_beq_eq_true hn0
  clear hd0 hn0
  subst hn
  show W p l e R s m args below meth c H locs cells slots Q (F0 m pc ls st)
  cases i
  case ifCond cd off =>
    simp only [xchi, Bool.and_eq_true] at hi
    obtain ⟨hi, hc⟩ := hi
    obtain rfl := Nat.eq_of_beq_eq_true hi
    have hc := of_decide_eq_true hc
    cases cd
    case eq =>
      simp only [xbr] at hs
      obtain ⟨x, r, rfl, hz⟩ := xI1_inv hs
      simp only [Option.some.injEq, Prod.mk.injEq] at hz
      obtain ⟨rfl, rfl, rfl, rfl⟩ := hz
      exact lv_if_eq hexec hb hd hc k1 k2
    case ne =>
      simp only [xbr] at hs
      obtain ⟨x, r, rfl, hz⟩ := xI1_inv hs
      simp only [Option.some.injEq, Prod.mk.injEq] at hz
      obtain ⟨rfl, rfl, rfl, rfl⟩ := hz
      exact lv_if_ne hexec hb hd hc k2 k1
    case lt =>
      simp only [xbr] at hs
      obtain ⟨x, r, rfl, hz⟩ := xI1_inv hs
      simp only [Option.some.injEq, Prod.mk.injEq] at hz
      obtain ⟨rfl, rfl, rfl, rfl⟩ := hz
      exact lv_if_lt hexec hb hd hc k1 k2
    case ge =>
      simp only [xbr] at hs
      obtain ⟨x, r, rfl, hz⟩ := xI1_inv hs
      simp only [Option.some.injEq, Prod.mk.injEq] at hz
      obtain ⟨rfl, rfl, rfl, rfl⟩ := hz
      exact lv_if_ge hexec hb hd hc k1 k2
    case gt =>
      simp only [xbr] at hs
      obtain ⟨x, r, rfl, hz⟩ := xI1_inv hs
      simp only [Option.some.injEq, Prod.mk.injEq] at hz
      obtain ⟨rfl, rfl, rfl, rfl⟩ := hz
      exact lv_if_gt hexec hb hd hc k1 k2
    case le =>
      simp only [xbr] at hs
      obtain ⟨x, r, rfl, hz⟩ := xI1_inv hs
      simp only [Option.some.injEq, Prod.mk.injEq] at hz
      obtain ⟨rfl, rfl, rfl, rfl⟩ := hz
      exact lv_if_le hexec hb hd hc k1 k2
  case if_icmp cd off =>
    simp only [xchi, Bool.and_eq_true] at hi
    obtain ⟨hi, hc⟩ := hi
    obtain rfl := Nat.eq_of_beq_eq_true hi
    have hc := of_decide_eq_true hc
    cases cd
    case eq =>
      simp only [xbr] at hs
      obtain ⟨x, y, r, rfl, hz⟩ := xI2_inv hs
      simp only [Option.some.injEq, Prod.mk.injEq] at hz
      obtain ⟨rfl, rfl, rfl, rfl⟩ := hz
      exact lv_icmp_eq hexec hb hd hc k1 k2
    case ne =>
      simp only [xbr] at hs
      obtain ⟨x, y, r, rfl, hz⟩ := xI2_inv hs
      simp only [Option.some.injEq, Prod.mk.injEq] at hz
      obtain ⟨rfl, rfl, rfl, rfl⟩ := hz
      exact lv_icmp_ne hexec hb hd hc k2 k1
    case lt =>
      simp only [xbr] at hs
      obtain ⟨x, y, r, rfl, hz⟩ := xI2_inv hs
      simp only [Option.some.injEq, Prod.mk.injEq] at hz
      obtain ⟨rfl, rfl, rfl, rfl⟩ := hz
      exact lv_icmp_lt hexec hb hd hc k1 k2
    case ge =>
      simp only [xbr] at hs
      obtain ⟨x, y, r, rfl, hz⟩ := xI2_inv hs
      simp only [Option.some.injEq, Prod.mk.injEq] at hz
      obtain ⟨rfl, rfl, rfl, rfl⟩ := hz
      exact lv_icmp_ge hexec hb hd hc k1 k2
    case gt =>
      simp only [xbr] at hs
      obtain ⟨x, y, r, rfl, hz⟩ := xI2_inv hs
      simp only [Option.some.injEq, Prod.mk.injEq] at hz
      obtain ⟨rfl, rfl, rfl, rfl⟩ := hz
      exact lv_icmp_gt hexec hb hd hc k1 k2
    case le =>
      simp only [xbr] at hs
      obtain ⟨x, y, r, rfl, hz⟩ := xI2_inv hs
      simp only [Option.some.injEq, Prod.mk.injEq] at hz
      obtain ⟨rfl, rfl, rfl, rfl⟩ := hz
      exact lv_icmp_le hexec hb hd hc k1 k2
  case if_acmp cd off =>
    simp only [xchi, Bool.and_eq_true] at hi
    obtain ⟨hi, hc⟩ := hi
    obtain rfl := Nat.eq_of_beq_eq_true hi
    have hc := of_decide_eq_true hc
    cases cd
    case eq =>
      simp only [xbr] at hs
      split at hs
      · rename_i b a r
        simp only [Option.some.injEq, Prod.mk.injEq] at hs
        obtain ⟨rfl, rfl, rfl, rfl⟩ := hs
        exact lv_acmp_eq (rx := some a) (ry := some b) hexec hb hd hc (fun z => k1 (Option.some.inj z)) (fun z => k2 (fun w => z (congrArg some w)))
      · cases hs
    case ne =>
      simp only [xbr] at hs
      split at hs
      · rename_i b a r
        simp only [Option.some.injEq, Prod.mk.injEq] at hs
        obtain ⟨rfl, rfl, rfl, rfl⟩ := hs
        exact lv_acmp_ne (rx := some a) (ry := some b) hexec hb hd hc (fun z => k2 (fun w => z (congrArg some w))) (fun z => k1 (Option.some.inj z))
      · cases hs
  case ifnull off =>
    simp only [xchi, Bool.and_eq_true] at hi
    obtain ⟨hi, hc⟩ := hi
    obtain rfl := Nat.eq_of_beq_eq_true hi
    have hc := of_decide_eq_true hc
    simp only [xbr] at hs
    split at hs
    · simp only [Option.some.injEq, Prod.mk.injEq] at hs
      obtain ⟨rfl, rfl, rfl, rfl⟩ := hs
      exact lv_ifnull hexec hb hd (k2 (fun z => z))
    · simp only [Option.some.injEq, Prod.mk.injEq] at hs
      obtain ⟨rfl, rfl, rfl, rfl⟩ := hs
      exact lv_ifnullN hexec hb hd hc (k1 trivial)
    · cases hs
  case ifnonnull off =>
    simp only [xchi, Bool.and_eq_true] at hi
    obtain ⟨hi, hc⟩ := hi
    obtain rfl := Nat.eq_of_beq_eq_true hi
    have hc := of_decide_eq_true hc
    simp only [xbr] at hs
    split at hs
    · simp only [Option.some.injEq, Prod.mk.injEq] at hs
      obtain ⟨rfl, rfl, rfl, rfl⟩ := hs
      exact lv_ifnonnull hexec hb hd hc (k1 trivial)
    · simp only [Option.some.injEq, Prod.mk.injEq] at hs
      obtain ⟨rfl, rfl, rfl, rfl⟩ := hs
      exact lv_ifnonnullN hexec hb hd (k2 (fun z => z))
    · cases hs
  all_goals exact absurd hs (by simp [xbr])
end XB
def xbo (M : XM) (pc : Nat) (st : List Value) : Option (Prop × Nat × Nat × List Value) := match xlook M.2.2.2.2.2 pc with
  | some q => xbr q st
  | none => none
def xop (M : XM) (pc : Nat) : Option Instr := (xlook M.2.2.2.2.2 pc).map (fun q => q.2.1)
def xnx (M : XM) (pc : Nat) : Nat := match xlook M.2.2.2.2.2 pc with
  | some q => q.2.2.2.1
  | none => 0
theorem xop_spec {M : XM} {pc : Nat} {i : Instr} (hok : xOK M = true) (h : xop M pc = some i) : ∃ len tg cv wi, xchk M.1 M.2.1 (pc, i, len, xnx M pc, tg, cv, wi) = true := by
  unfold xop at h
  cases hq : xlook M.2.2.2.2.2 pc with
  | none => rw [hq] at h; cases h
  | some q =>
    rw [hq] at h
    obtain ⟨pc', i', len, nx, tg, cv, wi⟩ := q
    obtain ⟨hk, hp⟩ := xOK_at hok hq
    simp only [Option.map_some, Option.some.injEq] at h hp
    subst h; subst hp
    refine ⟨len, tg, cv, wi, ?_⟩
    unfold xnx
    rw [hq]
    exact hk
theorem xchk_dec {y : MethodName} {cc : ByteArray} {pc len nx tg wi : Nat} {i : Instr} {cv : Value} (h : xchk y cc (pc, i, len, nx, tg, cv, wi) = true) : decode cc pc = .ok (i, len) ∧ nx = pc + len ∧ xchi y (pc, i, len, nx, tg, cv, wi) = true := by
  unfold xchk at h
  rw [Bool.and_eq_true, Bool.and_eq_true] at h
  exact ⟨of_decide_eq_true h.1, Nat.eq_of_beq_eq_true h.2.1, h.2.2⟩
section XB6
variable {D : va_G} {N0 : Nat} {M : XM} {d pc : Nat} {lv : XL} {st : List Value} {h : XH} {Q : Outcome → XH → Prop}
theorem xV.br {P : Prop} {t1 t2 : Nat} {st' : List Value} (hs : xbo M pc st = some (P, t1, t2, st')) (k1 : P → xV D N0 M d t1 lv st' h Q) (k2 : ¬ P → xV D N0 M d t2 lv st' h Q) : xV D N0 M d pc lv st h Q := by
  intro p l e R s m args below meth c H locs cells slots ls C hH hR hL
  unfold xbo at hs
  cases hq : xlook M.2.2.2.2.2 pc with
  | none => rw [hq] at hs; cases hs
  | some q =>
    rw [hq] at hs
    obtain ⟨hk, rfl⟩ := xOK_at C.2.2.2.2.2.2.2.2.2.2.2.2.1 hq
    exact xbr_W C.1 C.2.1 hk hs (fun hP => k1 hP p l e R s m args below meth c H locs cells slots ls C hH hR hL) (fun hP => k2 hP p l e R s m args below meth c H locs cells slots ls C hH hR hL)
theorem xEnd_of {R : Room} {s : State} {args : Array Value} {below : List Frame} {locs : List Loc} {cells slots : Nat} {H : Heap} {o : Outcome} (hH : xHp D s N0 h H) (hR : xRm N0 R h locs cells slots) (hQ : Q o h) {t : State}
    (hM : MQ below (fun _ _ o' t => o' = o ∧ t.heap = H) args s cells slots (fun a => N0 ≤ a) t) : xEnd D N0 R s below Q t := by
  obtain ⟨o', h1, h2, ⟨rfl, h3⟩, L, ⟨-, h4, h5⟩, h6⟩ := hM
  exact ⟨o', h, L, cells, slots, h1, h2, h4, h5, by rw [h3]; exact hH, ⟨h6, hR.2⟩, hQ⟩
theorem xV.iret {v : Int32} {ty : FieldType} (hq : xop M pc = some .ireturn) (hr : M.2.2.2.1 = some ty) (hn : narrow ty (.int v) = .int v) (hQ : Q (.returned (some (.int v))) h) : xV D N0 M d pc lv [.int v] h Q := by
  intro p l e R s m args below meth c H locs cells slots ls C hH hR hL T hT X
  obtain ⟨len, tg, cv, wi, hk⟩ := xop_spec C.2.2.2.2.2.2.2.2.2.2.2.2.1 hq
  obtain ⟨hd, -, hi⟩ := xchk_dec hk
  obtain rfl := Nat.eq_of_beq_eq_true hi
  obtain ⟨t, a, b⟩ := W.zret (Qc := fun _ _ o' t => o' = .returned (some (.int v)) ∧ t.heap = H) (free := fun a => N0 ≤ a) (args := args) (below := below) (R := R) (l := l) (e := e) (cells := cells) (slots := slots) (locs := locs) (ls := ls) C.1 C.2.1 (by rw [C.2.2.2.2.2.1]; exact hr) hn (fun t ht _ => ⟨rfl, ht⟩) hR.1 hd C.2.2.2.2.1 T hT X
  exact ⟨t, a, xEnd_of hH hR hQ b⟩
theorem xV.lret {v : Int64} (hq : xop M pc = some .lreturn) (hr : M.2.2.2.1 = some .long) (hQ : Q (.returned (some (.long v))) h) : xV D N0 M d pc lv [.long v] h Q := by
  intro p l e R s m args below meth c H locs cells slots ls C hH hR hL T hT X
  obtain ⟨len, tg, cv, wi, hk⟩ := xop_spec C.2.2.2.2.2.2.2.2.2.2.2.2.1 hq
  obtain ⟨hd, -, hi⟩ := xchk_dec hk
  obtain rfl := Nat.eq_of_beq_eq_true hi
  obtain ⟨t, a, b⟩ := W.lret (Qc := fun _ _ o' t => o' = .returned (some (.long v)) ∧ t.heap = H) (free := fun a => N0 ≤ a) (args := args) (below := below) (R := R) (l := l) (e := e) (cells := cells) (slots := slots) (locs := locs) (ls := ls) C.1 C.2.1 (by rw [C.2.2.2.2.2.1]; exact hr) (fun t ht _ => ⟨rfl, ht⟩) hR.1 hd C.2.2.2.2.1 T hT X
  exact ⟨t, a, xEnd_of hH hR hQ b⟩
theorem xV.vret (hq : xop M pc = some .return_) (hr : M.2.2.2.1 = none) (hQ : Q (.returned none) h) : xV D N0 M d pc lv [] h Q := by
  intro p l e R s m args below meth c H locs cells slots ls C hH hR hL T hT X
  obtain ⟨len, tg, cv, wi, hk⟩ := xop_spec C.2.2.2.2.2.2.2.2.2.2.2.2.1 hq
  obtain ⟨hd, -, hi⟩ := xchk_dec hk
  obtain rfl := Nat.eq_of_beq_eq_true hi
  obtain ⟨t, a, b⟩ := W.vret (Qc := fun _ _ o' t => o' = .returned none ∧ t.heap = H) (free := fun a => N0 ≤ a) (args := args) (below := below) (R := R) (l := l) (e := e) (cells := cells) (slots := slots) (locs := locs) (ls := ls) C.1 C.2.1 (by rw [C.2.2.2.2.2.1]; exact hr) (fun t ht _ => ⟨rfl, ht⟩) hR.1 hd C.2.2.2.2.1 T hT X
  exact ⟨t, a, xEnd_of hH hR hQ b⟩
theorem xV.aret {v : Value} {ty : FieldType} (hq : xop M pc = some .areturn) (hr : M.2.2.2.1 = some ty) (hty : (∃ n, ty = .object n) ∨ ∃ t, ty = .array t) (hv : v = .null ∨ ∃ a, v = .ref a) (hQ : Q (.returned (some v)) h) : xV D N0 M d pc lv [v] h Q := by
  intro p l e R s m args below meth c H locs cells slots ls C hH hR hL T hT X
  obtain ⟨len, tg, cv, wi, hk⟩ := xop_spec C.2.2.2.2.2.2.2.2.2.2.2.2.1 hq
  obtain ⟨hd, -, hi⟩ := xchk_dec hk
  obtain rfl := Nat.eq_of_beq_eq_true hi
  obtain ⟨t, a, b⟩ := W.aret (Qc := fun _ _ o' t => o' = .returned (some v) ∧ t.heap = H) (free := fun a => N0 ≤ a) (args := args) (below := below) (R := R) (l := l) (e := e) (cells := cells) (slots := slots) (locs := locs) (ls := ls) C.1 C.2.1 (by rw [C.2.2.2.2.2.1]; exact hr) hty hv (fun t ht _ => ⟨rfl, ht⟩) hR.1 hd C.2.2.2.2.1 T hT X
  exact ⟨t, a, xEnd_of hH hR hQ b⟩
theorem xT.out {a : Nat} (hout : (tableOf M.2.2.2.2.1).all (fun x => !covers x pc) = true) (hQ : Q (.threw a) h) : xT D N0 M d pc lv a h Q := by
  intro p l e R s m args below meth c T locs cells slots ls st C hH hR hL X
  obtain ⟨h1, h2, h3, h4, h5⟩ := X.leaveThrown a (g := F0 m pc ls st) rfl rfl rfl (outside_of_table C.2.2.2.1 hout) C.2.2.2.2.1
  exact ⟨_, h1, .threw a, h, locs, cells, slots, h2, h3, h4, h5, hH, hR, hQ⟩
theorem xV.athrow {a : Nat} {r : List Value} (hq : xop M pc = some .athrow) (k : xT D N0 M d pc lv a h Q) : xV D N0 M d pc lv (.ref a :: r) h Q := by
  intro p l e R s m args below meth c H locs cells slots ls C hH hR hL T hT X
  obtain ⟨len, tg, cv, wi, hk⟩ := xop_spec C.2.2.2.2.2.2.2.2.2.2.2.2.1 hq
  obtain ⟨hd, -, hi⟩ := xchk_dec hk
  obtain rfl := Nat.eq_of_beq_eq_true hi
  subst hT
  obtain ⟨t, h1, h2⟩ := k p l e R s m args below meth c T locs cells slots ls r C hH hR hL X
  refine ⟨t, ?_, h2⟩
  have hexec := C.1
  have hb := C.2.1
  jvm_step X.here [X.here.top, hexec, hb, hd, Op.athrow.wp_sem]
  exact h1
end XB6
