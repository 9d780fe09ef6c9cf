def xI1 {α : Type} (st : List Value) (f : Int32 → List Value → Option α) : Option α := match st with
  | .int x :: r => f x r
  | _ => none
def xI2 {α : Type} (st : List Value) (f : Int32 → Int32 → List Value → Option α) : Option α := match st with
  | .int y :: .int x :: r => f x y r
  | _ => none
def xL1 {α : Type} (st : List Value) (f : Int64 → List Value → Option α) : Option α := match st with
  | .long x :: r => f x r
  | _ => none
def xL2 {α : Type} (st : List Value) (f : Int64 → Int64 → List Value → Option α) : Option α := match st with
  | .long y :: .long x :: r => f x y r
  | _ => none
def xLI {α : Type} (st : List Value) (f : Int64 → Int32 → List Value → Option α) : Option α := match st with
  | .int y :: .long x :: r => f x y r
  | _ => none
def xA1 {α : Type} (st : List Value) (f : Value → List Value → Option α) : Option α := match st with
  | .ref a :: r => f (.ref a) r
  | .null :: r => f .null r
  | _ => none
def xV1 {α : Type} (st : List Value) (f : Value → List Value → Option α) : Option α := match st with
  | v :: r => bif Nat.beq v.category 1 then f v r else none
  | _ => none
def xV2 {α : Type} (st : List Value) (f : Value → Value → List Value → Option α) : Option α := match st with
  | v :: w :: r => bif (Nat.beq v.category 1 && Nat.beq w.category 1) then f v w r else none
  | _ => none
def xV3 {α : Type} (st : List Value) (f : Value → Value → Value → List Value → Option α) : Option α := match st with
  | v :: w :: u :: r => bif (Nat.beq v.category 1 && Nat.beq w.category 1 && Nat.beq u.category 1) then f v w u r else none
  | _ => none
def xLd {α : Type} (o : Option Value) (f : Value → Option α) : Option α := match o with
  | some v => f v
  | none => none
theorem xI1_inv {α : Type} {st : List Value} {f : Int32 → List Value → Option α} {z : α} (h : xI1 st f = some z) : ∃ (x : Int32) (r : List Value), st = .int x :: r ∧ f x r = some z := by
  unfold xI1 at h
  split at h
  · exact ⟨_, _, rfl, h⟩
  · cases h
theorem xI2_inv {α : Type} {st : List Value} {f : Int32 → Int32 → List Value → Option α} {z : α} (h : xI2 st f = some z) : ∃ (x y : Int32) (r : List Value), st = .int y :: .int x :: r ∧ f x y r = some z := by
  unfold xI2 at h
  split at h
  · exact ⟨_, _, _, rfl, h⟩
  · cases h
theorem xL1_inv {α : Type} {st : List Value} {f : Int64 → List Value → Option α} {z : α} (h : xL1 st f = some z) : ∃ (x : Int64) (r : List Value), st = .long x :: r ∧ f x r = some z := by
  unfold xL1 at h
  split at h
  · exact ⟨_, _, rfl, h⟩
  · cases h
theorem xL2_inv {α : Type} {st : List Value} {f : Int64 → Int64 → List Value → Option α} {z : α} (h : xL2 st f = some z) : ∃ (x y : Int64) (r : List Value), st = .long y :: .long x :: r ∧ f x y r = some z := by
  unfold xL2 at h
  split at h
  · exact ⟨_, _, _, rfl, h⟩
  · cases h
theorem xLI_inv {α : Type} {st : List Value} {f : Int64 → Int32 → List Value → Option α} {z : α} (h : xLI st f = some z) : ∃ (x : Int64) (y : Int32) (r : List Value), st = .int y :: .long x :: r ∧ f x y r = some z := by
  unfold xLI at h
  split at h
  · exact ⟨_, _, _, rfl, h⟩
  · cases h
theorem xA1_inv {α : Type} {st : List Value} {f : Value → List Value → Option α} {z : α} (h : xA1 st f = some z) : ∃ (r : List Value), (∃ a : Nat, st = .ref a :: r ∧ f (.ref a) r = some z) ∨ (st = .null :: r ∧ f .null r = some z) := by
  unfold xA1 at h
  split at h
  · exact ⟨_, Or.inl ⟨_, rfl, h⟩⟩
  · exact ⟨_, Or.inr ⟨rfl, h⟩⟩
  · cases h
theorem xbif {α : Type} {b : Bool} {x : Option α} {z : α} (h : (bif b then x else none) = some z) : b = true ∧ x = some z := by
  cases b
  · cases h
  · exact ⟨rfl, h⟩
theorem xV1_inv {α : Type} {st : List Value} {f : Value → List Value → Option α} {z : α} (h : xV1 st f = some z) : ∃ (v : Value) (r : List Value), st = v :: r ∧ v.category = 1 ∧ f v r = some z := by
  unfold xV1 at h
  split at h
  · obtain ⟨h1, h2⟩ := xbif h
    exact ⟨_, _, rfl, Nat.eq_of_beq_eq_true h1, h2⟩
  · cases h
theorem xV2_inv {α : Type} {st : List Value} {f : Value → Value → List Value → Option α} {z : α} (h : xV2 st f = some z) : ∃ (v w : Value) (r : List Value), st = v :: w :: r ∧ v.category = 1 ∧ w.category = 1 ∧ f v w r = some z := by
  unfold xV2 at h
  split at h
  · obtain ⟨h1, h2⟩ := xbif h
    rw [Bool.and_eq_true] at h1
    exact ⟨_, _, _, rfl, Nat.eq_of_beq_eq_true h1.1, Nat.eq_of_beq_eq_true h1.2, h2⟩
  · cases h
theorem xV3_inv {α : Type} {st : List Value} {f : Value → Value → Value → List Value → Option α} {z : α} (h : xV3 st f = some z) : ∃ (v w u : Value) (r : List Value), st = v :: w :: u :: r ∧ v.category = 1 ∧ w.category = 1 ∧ u.category = 1 ∧ f v w u r = some z := by
  unfold xV3 at h
  split at h
  · obtain ⟨h1, h2⟩ := xbif h
    rw [Bool.and_eq_true, Bool.and_eq_true] at h1
    exact ⟨_, _, _, _, rfl, Nat.eq_of_beq_eq_true h1.1.1, Nat.eq_of_beq_eq_true h1.1.2, Nat.eq_of_beq_eq_true h1.2, h2⟩
  · cases h
theorem xLd_inv {α : Type} {o : Option Value} {f : Value → Option α} {z : α} (h : xLd o f = some z) : ∃ v : Value, o = some v ∧ f v = some z := by
  cases o with
  | none => cases h
  | some v => exact ⟨v, rfl, h⟩
/-- an instruction that touches variables and operands alone -/
def xstep (q : XI) (lv : XL) (st : List Value) : Option (Nat × XL × List Value) := match q with
  | (_, i, _, nx, tg, cv, _) => match i with
    | .iconst _ => some (nx, lv, cv :: st)
    | .bipush _ => some (nx, lv, cv :: st)
    | .sipush _ => some (nx, lv, cv :: st)
    | .lconst _ => some (nx, lv, cv :: st)
    | .aconst_null => some (nx, lv, cv :: st)
    | .ldc_w _ => match cv with
      | .int v => some (nx, lv, .int v :: st)
      | _ => none
    | .ldc _ => match cv with
      | .int v => some (nx, lv, .int v :: st)
      | _ => none
    | .ldc2_w _ => match cv with
      | .long v => some (nx, lv, .long v :: st)
      | _ => none
    | .iload k => xLd (xnth lv k) fun v => match v with
      | .int x => some (nx, lv, .int x :: st)
      | _ => none
    | .iload_n k => xLd (xnth lv k) fun v => match v with
      | .int x => some (nx, lv, .int x :: st)
      | _ => none
    | .lload k => xLd (xnth lv k) fun v => match v with
      | .long x => some (nx, lv, .long x :: st)
      | _ => none
    | .lload_n k => xLd (xnth lv k) fun v => match v with
      | .long x => some (nx, lv, .long x :: st)
      | _ => none
    | .aload k => xLd (xnth lv k) fun v => match v with
      | .ref x => some (nx, lv, .ref x :: st)
      | .null => some (nx, lv, .null :: st)
      | _ => none
    | .aload_n k => xLd (xnth lv k) fun v => match v with
      | .ref x => some (nx, lv, .ref x :: st)
      | .null => some (nx, lv, .null :: st)
      | _ => none
    | .istore k => xI1 st fun x r => bif Nat.blt k lv.length then some (nx, xsto1 lv k (.int x), r) else none
    | .istore_n k => xI1 st fun x r => bif Nat.blt k lv.length then some (nx, xsto1 lv k (.int x), r) else none
    | .lstore k => xL1 st fun x r => bif Nat.blt (k + 1) lv.length then some (nx, xsto2 lv k (.long x), r) else none
    | .lstore_n k => xL1 st fun x r => bif Nat.blt (k + 1) lv.length then some (nx, xsto2 lv k (.long x), r) else none
    | .astore k => xA1 st fun x r => bif Nat.blt k lv.length then some (nx, xsto1 lv k x, r) else none
    | .astore_n k => xA1 st fun x r => bif Nat.blt k lv.length then some (nx, xsto1 lv k x, r) else none
    | .iinc k _ => xLd (xnth lv k) fun v => match v, cv with
      | .int x, .int y => bif Nat.blt k lv.length then some (nx, xsto1 lv k (.int (x + y)), st) else none
      | _, _ => none
    | .iadd => xI2 st fun x y r => some (nx, lv, .int (x + y) :: r)
    | .isub => xI2 st fun x y r => some (nx, lv, .int (x - y) :: r)
    | .imul => xI2 st fun x y r => some (nx, lv, .int (x * y) :: r)
    | .iand => xI2 st fun x y r => some (nx, lv, .int (x &&& y) :: r)
    | .ior => xI2 st fun x y r => some (nx, lv, .int (x ||| y) :: r)
    | .ixor => xI2 st fun x y r => some (nx, lv, .int (x ^^^ y) :: r)
    | .ishl => xI2 st fun x y r => some (nx, lv, .int (x <<< (y &&& 31)) :: r)
    | .ishr => xI2 st fun x y r => some (nx, lv, .int (x >>> (y &&& 31)) :: r)
    | .iushr => xI2 st fun x y r => some (nx, lv, .int ((x.toUInt32 >>> (y.toUInt32 &&& Int32.toUInt32 31)).toInt32) :: r)
    | .ladd => xL2 st fun x y r => some (nx, lv, .long (x + y) :: r)
    | .lsub => xL2 st fun x y r => some (nx, lv, .long (x - y) :: r)
    | .lmul => xL2 st fun x y r => some (nx, lv, .long (x * y) :: r)
    | .land => xL2 st fun x y r => some (nx, lv, .long (x &&& y) :: r)
    | .lor => xL2 st fun x y r => some (nx, lv, .long (x ||| y) :: r)
    | .lxor => xL2 st fun x y r => some (nx, lv, .long (x ^^^ y) :: r)
    | .lshl => xLI st fun x y r => some (nx, lv, .long (x <<< (y.toInt64 &&& 63)) :: r)
    | .lshr => xLI st fun x y r => some (nx, lv, .long (x >>> (y.toInt64 &&& 63)) :: r)
    | .lushr => xLI st fun x y r => some (nx, lv, .long ((x.toUInt64 >>> (y.toInt64.toUInt64 &&& Int64.toUInt64 63)).toInt64) :: r)
    | .ineg => xI1 st fun x r => some (nx, lv, .int (-x) :: r)
    | .i2l => xI1 st fun x r => some (nx, lv, .long x.toInt64 :: r)
    | .l2i => xL1 st fun x r => some (nx, lv, .int x.toInt32 :: r)
    | .lcmp => xL2 st fun x y r => some (nx, lv, .int (lg_cmp x y) :: r)
    | .dup => xV1 st fun v r => some (nx, lv, v :: v :: r)
    | .pop => xV1 st fun _ r => some (nx, lv, r)
    | .dup_x1 => xV2 st fun v w r => some (nx, lv, v :: w :: v :: r)
    | .dup_x2 => xV3 st fun v w u r => some (nx, lv, v :: w :: u :: v :: r)
    | .dup2 => xV2 st fun v w r => some (nx, lv, v :: w :: v :: w :: r)
    | .goto _ => some (tg, lv, st)
    | _ => none
/-- what is true of an instruction's entry, by computing -/
def xwt (i : Nat) (w : Jvm.Cond) : Bool := decide (tables_1[i]? = some w) && goodWord w
def xfk (wi : Nat) (own : String) (idx ci kf : Nat) : Bool := match xcl[ci]? with
  | some q => Nat.blt kf q.2.2 && ((xwt wi (.fieldLink own idx q.1 (q.2.1 kf).2.1 (q.2.1 kf).2.2.1) && (decide ((q.2.1 kf).1 = q.1) || xwt xsf (.sameField q.1 (q.2.1 kf).1 (q.2.1 kf).2.1 (q.2.1 kf).2.2.1))) || xwt wi (.fieldLink own idx (q.2.1 kf).1 (q.2.1 kf).2.1 (q.2.1 kf).2.2.1))
  | none => false
def xpk (y : MethodName) (ci kf : Nat) : Bool := match xcl[ci]? with
  | some q => (q.2.1 kf).2.2.2 == false || (decide (y.name = "<init>") && decide ((q.2.1 kf).1 = y.cls))
  | none => false
def xchi (y : MethodName) (q : XI) : Bool := match q with
  | (pc, i, len, _, tg, cv, wi) => match i with
    | .iconst n => Nat.beq len 1 && decide (cv = .int (Int32.ofInt n))
    | .bipush n => Nat.beq len 2 && decide (cv = .int (Int8.ofInt n).toInt32)
    | .sipush n => Nat.beq len 3 && decide (cv = .int (Int16.ofInt n).toInt32)
    | .lconst n => Nat.beq len 1 && decide (cv = .long (Int64.ofNat n))
    | .aconst_null => Nat.beq len 1 && decide (cv = .null)
    | .ldc k => Nat.beq len 2 && (match cv with | .int v => xwt wi (.constant y.cls k v) | _ => true)
    | .ldc_w k => Nat.beq len 3 && (match cv with | .int v => xwt wi (.constant y.cls k v) | _ => true)
    | .ldc2_w k => Nat.beq len 3 && (match cv with | .long v => xwt wi (.constantLong y.cls k v) | _ => true)
    | .iload _ => Nat.beq len 2
    | .lload _ => Nat.beq len 2
    | .aload _ => Nat.beq len 2
    | .istore _ => Nat.beq len 2
    | .lstore _ => Nat.beq len 2
    | .astore _ => Nat.beq len 2
    | .iinc _ n => Nat.beq len 3 && decide (cv = .int (Int32.ofInt n))
    | .goto off => Nat.beq len 3 && decide ((pc : Int) + off = (tg : Int))
    | .ifCond _ off => Nat.beq len 3 && decide ((pc : Int) + off = (tg : Int))
    | .if_icmp _ off => Nat.beq len 3 && decide ((pc : Int) + off = (tg : Int))
    | .if_acmp _ off => Nat.beq len 3 && decide ((pc : Int) + off = (tg : Int))
    | .ifnull off => Nat.beq len 3 && decide ((pc : Int) + off = (tg : Int))
    | .ifnonnull off => Nat.beq len 3 && decide ((pc : Int) + off = (tg : Int))
    | .getfield k => Nat.beq len 3 && (match cv with | .ref ci => xfk wi y.cls k ci tg | _ => false)
    | .putfield k => Nat.beq len 3 && (match cv with | .ref ci => xfk wi y.cls k ci tg && xpk y ci tg | _ => false)
    | .getstatic _ => Nat.beq len 3
    | .invokevirtual _ => Nat.beq len 3
    | .invokespecial _ => Nat.beq len 3
    | .invokestatic _ => Nat.beq len 3
    | .new _ => Nat.beq len 3
    | .checkcast _ => Nat.beq len 3
    | .anewarray _ => Nat.beq len 3
    | .newarray _ => Nat.beq len 2
    | .lookupswitch _ _ => true
    | .tableswitch _ _ _ _ => true
    | _ => Nat.beq len 1
def xchk (y : MethodName) (bytes : ByteArray) (q : XI) : Bool := decide (decode bytes q.1 = .ok (q.2.1, q.2.2.1)) && (Nat.beq q.2.2.2.1 (q.1 + q.2.2.1) && xchi y q)
section XS
variable {p : Program} {l : Launch} {e : Env} {R : Room} {s : State} {m : MethodId} {args : Array Value} {below : List Frame} {meth : Method} {c : Code} {H : Heap} {locs : List Loc} {cells slots : Nat} {Q : State → Prop}
set_option maxRecDepth 100000 in
set_option maxHeartbeats 4000000 in
theorem xstep_W (hexec : p.tables.exec = Jvm.exec) {cc : ByteArray} (hb : c.code = cc) {y : MethodName} (hown : s.vm.findClass y.cls = some m.cls) (hw : ∀ (i : Nat) (w : Jvm.Cond), xwt i w = true → w.before args s = true)
    {q : XI} (hq : xchk y cc q = true) {nL : Nat} {lv lv' : XL} {st st' : List Value} {pc' : Nat} {ls : Array Slot} (hl : xLs nL lv ls) (hs : xstep q lv st = some (pc', lv', st'))
    (k : ∀ ls', xLs nL lv' ls' → W p l e R s m args below meth c H locs cells slots Q (F0 m pc' ls' st')) : W p l e R s m args below meth c H locs cells slots Q (F0 m q.1 ls st) := by
  obtain ⟨pc, i, len, nx, tg, cv, wi⟩ := q
  unfold xchk at hq
  rw [Bool.and_eq_true, Bool.and_eq_true] at hq
  obtain ⟨hd0, hn0, hi⟩ := hq
  have hd : decode cc pc = .ok (i, len) := of_decide_eq_true hd0
  have hn : nx = pc + len := Nat.eq_of_beq_eq_true hn0
  clear hd0 hn0
  subst hn
  show W p l e R s m args below meth c H locs cells slots Q (F0 m pc ls st)
  cases i
  case iconst n =>
    simp only [xchi, Bool.and_eq_true] at hi
    obtain ⟨hi, hc⟩ := hi
    obtain rfl := Nat.eq_of_beq_eq_true hi
    have hc := of_decide_eq_true hc
    subst hc
    simp only [xstep, Option.some.injEq, Prod.mk.injEq] at hs
    obtain ⟨rfl, rfl, rfl⟩ := hs
    exact lv_iconst hexec hb hd rfl (k ls hl)
  case bipush n =>
    simp only [xchi, Bool.and_eq_true] at hi
    obtain ⟨hi, hc⟩ := hi
    obtain rfl := Nat.eq_of_beq_eq_true hi
    have hc := of_decide_eq_true hc
    subst hc
    simp only [xstep, Option.some.injEq, Prod.mk.injEq] at hs
    obtain ⟨rfl, rfl, rfl⟩ := hs
    exact lv_bipush hexec hb hd rfl (k ls hl)
  case sipush n =>
    simp only [xchi, Bool.and_eq_true] at hi
    obtain ⟨hi, hc⟩ := hi
    obtain rfl := Nat.eq_of_beq_eq_true hi
    have hc := of_decide_eq_true hc
    subst hc
    simp only [xstep, Option.some.injEq, Prod.mk.injEq] at hs
    obtain ⟨rfl, rfl, rfl⟩ := hs
    exact lv_sipush hexec hb hd rfl (k ls hl)
  case lconst n =>
    simp only [xchi, Bool.and_eq_true] at hi
    obtain ⟨hi, hc⟩ := hi
    obtain rfl := Nat.eq_of_beq_eq_true hi
    have hc := of_decide_eq_true hc
    subst hc
    simp only [xstep, Option.some.injEq, Prod.mk.injEq] at hs
    obtain ⟨rfl, rfl, rfl⟩ := hs
    exact lv_lconst hexec hb hd rfl (k ls hl)
  case aconst_null =>
    simp only [xchi, Bool.and_eq_true] at hi
    obtain ⟨hi, hc⟩ := hi
    obtain rfl := Nat.eq_of_beq_eq_true hi
    have hc := of_decide_eq_true hc
    subst hc
    simp only [xstep, Option.some.injEq, Prod.mk.injEq] at hs
    obtain ⟨rfl, rfl, rfl⟩ := hs
    exact lv_null hexec hb hd (k ls hl)
  case ldc n =>
    simp only [xchi, Bool.and_eq_true] at hi
    obtain ⟨hi, hc⟩ := hi
    obtain rfl := Nat.eq_of_beq_eq_true hi
    cases cv
    case int v =>
      simp only [xstep, Option.some.injEq, Prod.mk.injEq] at hs
      obtain ⟨rfl, rfl, rfl⟩ := hs
      exact lv_ldc hexec hb hown (hw _ _ hc) hd (k ls hl)
    all_goals cases hs
  case ldc_w n =>
    simp only [xchi, Bool.and_eq_true] at hi
    obtain ⟨hi, hc⟩ := hi
    obtain rfl := Nat.eq_of_beq_eq_true hi
    cases cv
    case int v =>
      simp only [xstep, Option.some.injEq, Prod.mk.injEq] at hs
      obtain ⟨rfl, rfl, rfl⟩ := hs
      exact lv_ldcw hexec hb hown (hw _ _ hc) hd (k ls hl)
    all_goals cases hs
  case ldc2_w n =>
    simp only [xchi, Bool.and_eq_true] at hi
    obtain ⟨hi, hc⟩ := hi
    obtain rfl := Nat.eq_of_beq_eq_true hi
    cases cv
    case long v =>
      simp only [xstep, Option.some.injEq, Prod.mk.injEq] at hs
      obtain ⟨rfl, rfl, rfl⟩ := hs
      exact lv_ldc2 hexec hb hown (hw _ _ hc) hd (k ls hl)
    all_goals cases hs
  case iload j =>
    obtain rfl := Nat.eq_of_beq_eq_true hi
    simp only [xstep] at hs
    obtain ⟨v, hv, hs⟩ := xLd_inv hs
    cases v
    case int x =>
      simp only [Option.some.injEq, Prod.mk.injEq] at hs
      obtain ⟨rfl, rfl, rfl⟩ := hs
      exact lv_iload hexec hb hd (hl.2.2.2 _ _ hv) (k ls hl)
    all_goals cases hs
  case iload_n j =>
    obtain rfl := Nat.eq_of_beq_eq_true hi
    simp only [xstep] at hs
    obtain ⟨v, hv, hs⟩ := xLd_inv hs
    cases v
    case int x =>
      simp only [Option.some.injEq, Prod.mk.injEq] at hs
      obtain ⟨rfl, rfl, rfl⟩ := hs
      exact lv_iload_n hexec hb hd rfl (hl.2.2.2 _ _ hv) (k ls hl)
    all_goals cases hs
  case lload j =>
    obtain rfl := Nat.eq_of_beq_eq_true hi
    simp only [xstep] at hs
    obtain ⟨v, hv, hs⟩ := xLd_inv hs
    cases v
    case long x =>
      simp only [Option.some.injEq, Prod.mk.injEq] at hs
      obtain ⟨rfl, rfl, rfl⟩ := hs
      exact lv_lload hexec hb hd (hl.2.2.2 _ _ hv) (k ls hl)
    all_goals cases hs
  case lload_n j =>
    obtain rfl := Nat.eq_of_beq_eq_true hi
    simp only [xstep] at hs
    obtain ⟨v, hv, hs⟩ := xLd_inv hs
    cases v
    case long x =>
      simp only [Option.some.injEq, Prod.mk.injEq] at hs
      obtain ⟨rfl, rfl, rfl⟩ := hs
      exact lv_lload_n hexec hb hd rfl (hl.2.2.2 _ _ hv) (k ls hl)
    all_goals cases hs
  case aload j =>
    obtain rfl := Nat.eq_of_beq_eq_true hi
    simp only [xstep] at hs
    obtain ⟨v, hv, hs⟩ := xLd_inv hs
    cases v
    case ref x =>
      simp only [Option.some.injEq, Prod.mk.injEq] at hs
      obtain ⟨rfl, rfl, rfl⟩ := hs
      exact lv_aload hexec hb hd (hl.2.2.2 _ _ hv) (k ls hl)
    case null =>
      simp only [Option.some.injEq, Prod.mk.injEq] at hs
      obtain ⟨rfl, rfl, rfl⟩ := hs
      exact lv_aloadN hexec hb hd (hl.2.2.2 _ _ hv) (k ls hl)
    all_goals cases hs
  case aload_n j =>
    obtain rfl := Nat.eq_of_beq_eq_true hi
    simp only [xstep] at hs
    obtain ⟨v, hv, hs⟩ := xLd_inv hs
    cases v
    case ref x =>
      simp only [Option.some.injEq, Prod.mk.injEq] at hs
      obtain ⟨rfl, rfl, rfl⟩ := hs
      exact lv_aload_n hexec hb hd rfl (hl.2.2.2 _ _ hv) (k ls hl)
    case null =>
      simp only [Option.some.injEq, Prod.mk.injEq] at hs
      obtain ⟨rfl, rfl, rfl⟩ := hs
      exact lv_aload_nN hexec hb hd rfl (hl.2.2.2 _ _ hv) (k ls hl)
    all_goals cases hs
  case istore j =>
    obtain rfl := Nat.eq_of_beq_eq_true hi
    simp only [xstep] at hs
    obtain ⟨x, r, rfl, hs⟩ := xI1_inv hs
    obtain ⟨hlt, hs⟩ := xbif hs
    simp only [Option.some.injEq, Prod.mk.injEq] at hs
    obtain ⟨rfl, rfl, rfl⟩ := hs
    exact lv_istore hexec hb hd hl.has (by rw [← hl.1]; exact Nat.le_of_ble_eq_true hlt) rfl (fun ls' h' => k ls' (xLs.sto1 hl.1 h'))
  case istore_n j =>
    obtain rfl := Nat.eq_of_beq_eq_true hi
    simp only [xstep] at hs
    obtain ⟨x, r, rfl, hs⟩ := xI1_inv hs
    obtain ⟨hlt, hs⟩ := xbif hs
    simp only [Option.some.injEq, Prod.mk.injEq] at hs
    obtain ⟨rfl, rfl, rfl⟩ := hs
    exact lv_istore_n hexec hb hd rfl hl.has (by rw [← hl.1]; exact Nat.le_of_ble_eq_true hlt) rfl (fun ls' h' => k ls' (xLs.sto1 hl.1 h'))
  case lstore j =>
    obtain rfl := Nat.eq_of_beq_eq_true hi
    simp only [xstep] at hs
    obtain ⟨x, r, rfl, hs⟩ := xL1_inv hs
    obtain ⟨hlt, hs⟩ := xbif hs
    simp only [Option.some.injEq, Prod.mk.injEq] at hs
    obtain ⟨rfl, rfl, rfl⟩ := hs
    exact lv_lstore hexec hb hd hl.has (by rw [← hl.1]; exact Nat.le_of_ble_eq_true hlt) rfl (fun ls' h' => k ls' (xLs.sto2 hl.1 h'))
  case lstore_n j =>
    obtain rfl := Nat.eq_of_beq_eq_true hi
    simp only [xstep] at hs
    obtain ⟨x, r, rfl, hs⟩ := xL1_inv hs
    obtain ⟨hlt, hs⟩ := xbif hs
    simp only [Option.some.injEq, Prod.mk.injEq] at hs
    obtain ⟨rfl, rfl, rfl⟩ := hs
    exact lv_lstore_n hexec hb hd rfl hl.has (by rw [← hl.1]; exact Nat.le_of_ble_eq_true hlt) rfl (fun ls' h' => k ls' (xLs.sto2 hl.1 h'))
  case astore j =>
    obtain rfl := Nat.eq_of_beq_eq_true hi
    simp only [xstep] at hs
    obtain ⟨r, ⟨a, rfl, hs⟩ | ⟨rfl, hs⟩⟩ := xA1_inv hs
    · obtain ⟨hlt, hs⟩ := xbif hs
      simp only [Option.some.injEq, Prod.mk.injEq] at hs
      obtain ⟨rfl, rfl, rfl⟩ := hs
      exact lv_astore hexec hb hd hl.has (by rw [← hl.1]; exact Nat.le_of_ble_eq_true hlt) rfl (fun ls' h' => k ls' (xLs.sto1 hl.1 h'))
    · obtain ⟨hlt, hs⟩ := xbif hs
      simp only [Option.some.injEq, Prod.mk.injEq] at hs
      obtain ⟨rfl, rfl, rfl⟩ := hs
      exact lv_astoreN hexec hb hd hl.has (by rw [← hl.1]; exact Nat.le_of_ble_eq_true hlt) rfl (fun ls' h' => k ls' (xLs.sto1 hl.1 h'))
  case astore_n j =>
    obtain rfl := Nat.eq_of_beq_eq_true hi
    simp only [xstep] at hs
    obtain ⟨r, ⟨a, rfl, hs⟩ | ⟨rfl, hs⟩⟩ := xA1_inv hs
    · obtain ⟨hlt, hs⟩ := xbif hs
      simp only [Option.some.injEq, Prod.mk.injEq] at hs
      obtain ⟨rfl, rfl, rfl⟩ := hs
      exact lv_astore_n hexec hb hd rfl hl.has (by rw [← hl.1]; exact Nat.le_of_ble_eq_true hlt) rfl (fun ls' h' => k ls' (xLs.sto1 hl.1 h'))
    · obtain ⟨hlt, hs⟩ := xbif hs
      simp only [Option.some.injEq, Prod.mk.injEq] at hs
      obtain ⟨rfl, rfl, rfl⟩ := hs
      exact lv_astore_nN hexec hb hd rfl hl.has (by rw [← hl.1]; exact Nat.le_of_ble_eq_true hlt) rfl (fun ls' h' => k ls' (xLs.sto1 hl.1 h'))
  case iinc j n =>
    simp only [xchi, Bool.and_eq_true] at hi
    obtain ⟨hi, hc⟩ := hi
    obtain rfl := Nat.eq_of_beq_eq_true hi
    have hc := of_decide_eq_true hc
    subst hc
    simp only [xstep] at hs
    obtain ⟨v, hv, hs⟩ := xLd_inv hs
    cases v
    case int x =>
      obtain ⟨hlt, hs⟩ := xbif hs
      simp only [Option.some.injEq, Prod.mk.injEq] at hs
      obtain ⟨rfl, rfl, rfl⟩ := hs
      obtain ⟨z, hz⟩ := List.getElem?_of_mem (xasc_mem.mpr hv)
      exact lv_iinc hexec hb hd hl.has hz rfl (by rw [← hl.1]; exact Nat.le_of_ble_eq_true hlt) rfl (fun ls' h' => k ls' (xLs.sto1 hl.1 h'))
    all_goals cases hs
  case iadd =>
    obtain rfl := Nat.eq_of_beq_eq_true hi
    simp only [xstep] at hs
    obtain ⟨x, y, r, rfl, hz⟩ := xI2_inv hs
    simp only [Option.some.injEq, Prod.mk.injEq] at hz
    obtain ⟨rfl, rfl, rfl⟩ := hz
    exact lv_iadd hexec hb hd (k ls hl)
  case isub =>
    obtain rfl := Nat.eq_of_beq_eq_true hi
    simp only [xstep] at hs
    obtain ⟨x, y, r, rfl, hz⟩ := xI2_inv hs
    simp only [Option.some.injEq, Prod.mk.injEq] at hz
    obtain ⟨rfl, rfl, rfl⟩ := hz
    exact lv_isub hexec hb hd (k ls hl)
  case imul =>
    obtain rfl := Nat.eq_of_beq_eq_true hi
    simp only [xstep] at hs
    obtain ⟨x, y, r, rfl, hz⟩ := xI2_inv hs
    simp only [Option.some.injEq, Prod.mk.injEq] at hz
    obtain ⟨rfl, rfl, rfl⟩ := hz
    exact lv_imul hexec hb hd (k ls hl)
  case iand =>
    obtain rfl := Nat.eq_of_beq_eq_true hi
    simp only [xstep] at hs
    obtain ⟨x, y, r, rfl, hz⟩ := xI2_inv hs
    simp only [Option.some.injEq, Prod.mk.injEq] at hz
    obtain ⟨rfl, rfl, rfl⟩ := hz
    exact lv_iand hexec hb hd (k ls hl)
  case ior =>
    obtain rfl := Nat.eq_of_beq_eq_true hi
    simp only [xstep] at hs
    obtain ⟨x, y, r, rfl, hz⟩ := xI2_inv hs
    simp only [Option.some.injEq, Prod.mk.injEq] at hz
    obtain ⟨rfl, rfl, rfl⟩ := hz
    exact lv_ior hexec hb hd (k ls hl)
  case ixor =>
    obtain rfl := Nat.eq_of_beq_eq_true hi
    simp only [xstep] at hs
    obtain ⟨x, y, r, rfl, hz⟩ := xI2_inv hs
    simp only [Option.some.injEq, Prod.mk.injEq] at hz
    obtain ⟨rfl, rfl, rfl⟩ := hz
    exact lv_ixor hexec hb hd (k ls hl)
  case ishl =>
    obtain rfl := Nat.eq_of_beq_eq_true hi
    simp only [xstep] at hs
    obtain ⟨x, y, r, rfl, hz⟩ := xI2_inv hs
    simp only [Option.some.injEq, Prod.mk.injEq] at hz
    obtain ⟨rfl, rfl, rfl⟩ := hz
    exact lv_ishl hexec hb hd (k ls hl)
  case ishr =>
    obtain rfl := Nat.eq_of_beq_eq_true hi
    simp only [xstep] at hs
    obtain ⟨x, y, r, rfl, hz⟩ := xI2_inv hs
    simp only [Option.some.injEq, Prod.mk.injEq] at hz
    obtain ⟨rfl, rfl, rfl⟩ := hz
    exact lv_ishr hexec hb hd (k ls hl)
  case iushr =>
    obtain rfl := Nat.eq_of_beq_eq_true hi
    simp only [xstep] at hs
    obtain ⟨x, y, r, rfl, hz⟩ := xI2_inv hs
    simp only [Option.some.injEq, Prod.mk.injEq] at hz
    obtain ⟨rfl, rfl, rfl⟩ := hz
    exact lv_iushr hexec hb hd rfl (k ls hl)
  case ladd =>
    obtain rfl := Nat.eq_of_beq_eq_true hi
    simp only [xstep] at hs
    obtain ⟨x, y, r, rfl, hz⟩ := xL2_inv hs
    simp only [Option.some.injEq, Prod.mk.injEq] at hz
    obtain ⟨rfl, rfl, rfl⟩ := hz
    exact lv_ladd hexec hb hd (k ls hl)
  case lsub =>
    obtain rfl := Nat.eq_of_beq_eq_true hi
    simp only [xstep] at hs
    obtain ⟨x, y, r, rfl, hz⟩ := xL2_inv hs
    simp only [Option.some.injEq, Prod.mk.injEq] at hz
    obtain ⟨rfl, rfl, rfl⟩ := hz
    exact lv_lsub hexec hb hd (k ls hl)
  case lmul =>
    obtain rfl := Nat.eq_of_beq_eq_true hi
    simp only [xstep] at hs
    obtain ⟨x, y, r, rfl, hz⟩ := xL2_inv hs
    simp only [Option.some.injEq, Prod.mk.injEq] at hz
    obtain ⟨rfl, rfl, rfl⟩ := hz
    exact lv_lmul hexec hb hd (k ls hl)
  case land =>
    obtain rfl := Nat.eq_of_beq_eq_true hi
    simp only [xstep] at hs
    obtain ⟨x, y, r, rfl, hz⟩ := xL2_inv hs
    simp only [Option.some.injEq, Prod.mk.injEq] at hz
    obtain ⟨rfl, rfl, rfl⟩ := hz
    exact lv_land hexec hb hd (k ls hl)
  case lor =>
    obtain rfl := Nat.eq_of_beq_eq_true hi
    simp only [xstep] at hs
    obtain ⟨x, y, r, rfl, hz⟩ := xL2_inv hs
    simp only [Option.some.injEq, Prod.mk.injEq] at hz
    obtain ⟨rfl, rfl, rfl⟩ := hz
    exact lv_lor hexec hb hd (k ls hl)
  case lxor =>
    obtain rfl := Nat.eq_of_beq_eq_true hi
    simp only [xstep] at hs
    obtain ⟨x, y, r, rfl, hz⟩ := xL2_inv hs
    simp only [Option.some.injEq, Prod.mk.injEq] at hz
    obtain ⟨rfl, rfl, rfl⟩ := hz
    exact lv_lxor hexec hb hd (k ls hl)
  case lshl =>
    obtain rfl := Nat.eq_of_beq_eq_true hi
    simp only [xstep] at hs
    obtain ⟨x, y, r, rfl, hz⟩ := xLI_inv hs
    simp only [Option.some.injEq, Prod.mk.injEq] at hz
    obtain ⟨rfl, rfl, rfl⟩ := hz
    exact lv_lshl hexec hb hd rfl (k ls hl)
  case lshr =>
    obtain rfl := Nat.eq_of_beq_eq_true hi
    simp only [xstep] at hs
    obtain ⟨x, y, r, rfl, hz⟩ := xLI_inv hs
    simp only [Option.some.injEq, Prod.mk.injEq] at hz
    obtain ⟨rfl, rfl, rfl⟩ := hz
    exact lv_lshr hexec hb hd rfl (k ls hl)
  case lushr =>
    obtain rfl := Nat.eq_of_beq_eq_true hi
    simp only [xstep] at hs
    obtain ⟨x, y, r, rfl, hz⟩ := xLI_inv hs
    simp only [Option.some.injEq, Prod.mk.injEq] at hz
    obtain ⟨rfl, rfl, rfl⟩ := hz
    exact lv_lushr hexec hb hd rfl (k ls hl)
  case ineg =>
    obtain rfl := Nat.eq_of_beq_eq_true hi
    simp only [xstep] at hs
    obtain ⟨x, r, rfl, hz⟩ := xI1_inv hs
    simp only [Option.some.injEq, Prod.mk.injEq] at hz
    obtain ⟨rfl, rfl, rfl⟩ := hz
    exact lv_ineg hexec hb hd (k ls hl)
  case i2l =>
    obtain rfl := Nat.eq_of_beq_eq_true hi
    simp only [xstep] at hs
    obtain ⟨x, r, rfl, hz⟩ := xI1_inv hs
    simp only [Option.some.injEq, Prod.mk.injEq] at hz
    obtain ⟨rfl, rfl, rfl⟩ := hz
    exact lv_i2l hexec hb hd rfl (k ls hl)
  case l2i =>
    obtain rfl := Nat.eq_of_beq_eq_true hi
    simp only [xstep] at hs
    obtain ⟨x, r, rfl, hz⟩ := xL1_inv hs
    simp only [Option.some.injEq, Prod.mk.injEq] at hz
    obtain ⟨rfl, rfl, rfl⟩ := hz
    exact lv_l2i hexec hb hd rfl (k ls hl)
  case lcmp =>
    obtain rfl := Nat.eq_of_beq_eq_true hi
    simp only [xstep] at hs
    obtain ⟨x, y, r, rfl, hz⟩ := xL2_inv hs
    simp only [Option.some.injEq, Prod.mk.injEq] at hz
    obtain ⟨rfl, rfl, rfl⟩ := hz
    exact W.lcmp hexec hb hd (k ls hl)
  case dup =>
    obtain rfl := Nat.eq_of_beq_eq_true hi
    simp only [xstep] at hs
    obtain ⟨v, r, rfl, hv, hz⟩ := xV1_inv hs
    simp only [Option.some.injEq, Prod.mk.injEq] at hz
    obtain ⟨rfl, rfl, rfl⟩ := hz
    exact lv_dup hexec hb hd hv (k ls hl)
  case pop =>
    obtain rfl := Nat.eq_of_beq_eq_true hi
    simp only [xstep] at hs
    obtain ⟨v, r, rfl, hv, hz⟩ := xV1_inv hs
    simp only [Option.some.injEq, Prod.mk.injEq] at hz
    obtain ⟨rfl, rfl, rfl⟩ := hz
    exact lv_pop hexec hb hd hv (k ls hl)
  case dup_x1 =>
    obtain rfl := Nat.eq_of_beq_eq_true hi
    simp only [xstep] at hs
    obtain ⟨v, w, r, rfl, hv, hw2, hz⟩ := xV2_inv hs
    simp only [Option.some.injEq, Prod.mk.injEq] at hz
    obtain ⟨rfl, rfl, rfl⟩ := hz
    exact lv_dup_x1 hexec hb hd hv hw2 (k ls hl)
  case dup2 =>
    obtain rfl := Nat.eq_of_beq_eq_true hi
    simp only [xstep] at hs
    obtain ⟨v, w, r, rfl, hv, hw2, hz⟩ := xV2_inv hs
    simp only [Option.some.injEq, Prod.mk.injEq] at hz
    obtain ⟨rfl, rfl, rfl⟩ := hz
    exact lv_dup2_11 hexec hb hd hv hw2 (k ls hl)
  case dup_x2 =>
    obtain rfl := Nat.eq_of_beq_eq_true hi
    simp only [xstep] at hs
    obtain ⟨v, w, u, r, rfl, hv, hw2, hu, hz⟩ := xV3_inv hs
    simp only [Option.some.injEq, Prod.mk.injEq] at hz
    obtain ⟨rfl, rfl, rfl⟩ := hz
    exact lv_dup_x2 hexec hb hd hv hw2 hu (k ls hl)
  case goto off =>
    simp only [xchi, Bool.and_eq_true] at hi
    obtain ⟨hi, hc⟩ := hi
    obtain rfl := Nat.eq_of_beq_eq_true hi
    have hc := of_decide_eq_true hc
    simp only [xstep, Option.some.injEq, Prod.mk.injEq] at hs
    obtain ⟨rfl, rfl, rfl⟩ := hs
    exact lv_goto hexec hb hd hc (k ls hl)
  all_goals exact absurd hs (by simp [xstep])
end XS
