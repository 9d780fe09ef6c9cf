/- Part 04: an abstract heap, positional locals, a table of instructions a method, and the judgement xV over the kit's W. -/
abbrev XC : Type := (Bool × FieldType × vp_A) ⊕ (Nat × List Value)
abbrev XH : Type := Nat × Nat × Nat × (Nat → Option XC)
abbrev XL : Type := List (Option Value)
/-- an instruction: its place, itself, its length, the next place, a target (or a field's place), a constant (or a class's place), the place of its word in tables_1 -/
abbrev XI : Type := Nat × Instr × Nat × Nat × Nat × Value × Nat
/-- a method: name, code, variables, answer's type, handlers, instructions -/
abbrev XM : Type := MethodName × ByteArray × Nat × Option FieldType × List (Nat × Nat × Nat × Nat) × List XI
def xget (h : XH) (a : Nat) : Option XC := h.2.2.2 a
def xput (h : XH) (a : Nat) (c : XC) : XH := (h.1, h.2.1, h.2.2.1, fun q => if q = a then some c else h.2.2.2 q)
def xnew (h : XH) (c : XC) (n : Nat) : XH := (h.1 + 1, h.2.1 + 1, h.2.2.1 + n, fun q => if q = h.1 then some c else h.2.2.2 q)
def xnth : XL → Nat → Option Value
  | [], _ => none
  | x :: _, 0 => x
  | _ :: t, n + 1 => xnth t n
def xupd : XL → Nat → Option Value → XL
  | [], _, _ => []
  | _ :: t, 0, v => v :: t
  | x :: t, n + 1, v => x :: xupd t n v
def xclr (lv : XL) (i : Nat) : XL := match i with
  | 0 => lv
  | j + 1 => match xnth lv j with
    | none => lv
    | some w => bif Nat.beq w.category 2 then xupd lv j none else lv
def xsto1 (lv : XL) (i : Nat) (v : Value) : XL := xupd (xclr lv i) i (some v)
def xsto2 (lv : XL) (i : Nat) (v : Value) : XL := xupd (xupd (xclr lv i) i (some v)) (i + 1) none
def xlook : List XI → Nat → Option XI
  | [], _ => none
  | e :: t, pc => bif Nat.beq e.1 pc then some e else xlook t pc
theorem xnth_upd (lv : XL) (i j : Nat) (v : Option Value) : xnth (xupd lv i v) j = if i = j then (if i < lv.length then v else none) else xnth lv j := by
  induction lv generalizing i j with
  | nil => simp [xupd, xnth]
  | cons x t ih =>
    cases i with
    | zero =>
      cases j with
      | zero => simp [xupd, xnth]
      | succ j => simp [xupd, xnth]
    | succ i =>
      cases j with
      | zero => simp [xupd, xnth]
      | succ j => simp [xupd, xnth, ih]
theorem xlen_upd (lv : XL) (i : Nat) (v : Option Value) : (xupd lv i v).length = lv.length := by
  induction lv generalizing i with
  | nil => simp [xupd]
  | cons x t ih =>
    cases i with
    | zero => simp [xupd]
    | succ i => simp [xupd, ih]
theorem xlen_clr (lv : XL) (i : Nat) : (xclr lv i).length = lv.length := by
  unfold xclr
  cases i with
  | zero => rfl
  | succ j =>
    simp only
    cases xnth lv j with
    | none => rfl
    | some w =>
      simp only
      cases h : Nat.beq w.category 2 <;> simp [h, xlen_upd]
theorem xnth_clr {lv : XL} {i j : Nat} {w : Value} (h : xnth (xclr lv i) j = some w) : xnth lv j = some w ∧ ¬ (j + 1 = i ∧ w.category = 2) := by
  unfold xclr at h
  cases i with
  | zero => exact ⟨h, by omega⟩
  | succ k =>
    simp only at h
    cases hk : xnth lv k with
    | none =>
      rw [hk] at h
      simp only at h
      refine ⟨h, fun q => ?_⟩
      have : j = k := by omega
      subst this
      rw [hk] at h; cases h
    | some w2 =>
      rw [hk] at h
      simp only at h
      cases hb : Nat.beq w2.category 2 with
      | true =>
        rw [hb] at h
        simp only [cond_true, xnth_upd] at h
        by_cases hkj : k = j
        · rw [if_pos hkj] at h
          split at h <;> cases h
        · rw [if_neg hkj] at h
          exact ⟨h, by omega⟩
      | false =>
        rw [hb] at h
        simp only [cond_false] at h
        refine ⟨h, fun q => ?_⟩
        have : j = k := by omega
        subst this
        have e2 : w2 = w := Option.some.inj (hk.symm.trans h)
        rw [e2, q.2] at hb
        cases hb
/-- the machine's variables hold what the list says -/
def xLs (nL : Nat) (lv : XL) (ls : Array Slot) : Prop := lv.length = nL ∧ ls.size = nL ∧ lv_wf ls ∧ ∀ (j : Nat) (w : Value), xnth lv j = some w → ls[j]? = some (.val w)
def xasc (lv : XL) : List (Nat × Value) := (List.range lv.length).filterMap (fun j => (xnth lv j).map (fun w => (j, w)))
theorem xnth_lt {lv : XL} {j : Nat} {w : Value} (h : xnth lv j = some w) : j < lv.length := by
  induction lv generalizing j with
  | nil => simp [xnth] at h
  | cons x t ih =>
    cases j with
    | zero => simp
    | succ j => simp [xnth] at h; have := ih h; simp; omega
theorem xasc_mem {lv : XL} {j : Nat} {w : Value} : (j, w) ∈ xasc lv ↔ xnth lv j = some w := by
  unfold xasc
  rw [List.mem_filterMap]
  constructor
  · rintro ⟨k, -, h⟩
    cases hk : xnth lv k with
    | none => rw [hk] at h; cases h
    | some u =>
      rw [hk] at h
      simp at h
      obtain ⟨rfl, rfl⟩ := h
      exact hk
  · intro h
    exact ⟨j, List.mem_range.mpr (xnth_lt h), by rw [h]; rfl⟩
theorem xLs.has {nL : Nat} {lv : XL} {ls : Array Slot} (h : xLs nL lv ls) : lv_has ls nL (xasc lv) :=
  ⟨h.2.1, h.2.2.1, fun q hq => h.2.2.2 q.1 q.2 (xasc_mem.mp hq)⟩
theorem xLs.sto1 {nL i : Nat} {lv : XL} {ls' : Array Slot} {v : Value} (hl : lv.length = nL) (h : lv_has ls' nL ((i, v) :: (xasc lv).filter (fun q => !(q.1 == i) && !(q.1 + 1 == i && q.2.category == 2)))) : xLs nL (xsto1 lv i v) ls' := by
  refine ⟨by rw [xsto1, xlen_upd, xlen_clr, hl], h.1, h.2.1, fun j w hj => ?_⟩
  rw [xsto1, xnth_upd] at hj
  by_cases hij : i = j
  · rw [if_pos hij] at hj
    split at hj
    · cases hj
      exact h.2.2 (j, v) (by rw [hij]; exact List.mem_cons_self)
    · cases hj
  · rw [if_neg hij] at hj
    obtain ⟨h1, h2⟩ := xnth_clr hj
    refine h.2.2 (j, w) (List.mem_cons_of_mem _ (List.mem_filter.mpr ⟨xasc_mem.mpr h1, ?_⟩))
    have h3 : ¬ j = i := fun q => hij q.symm
    simp only [Bool.and_eq_true, Bool.not_eq_true', beq_eq_false_iff_ne, ne_eq, h3, not_false_eq_true, true_and, Bool.and_eq_false_iff]
    by_cases h4 : j + 1 = i
    · exact Or.inr fun q => h2 ⟨h4, q⟩
    · exact Or.inl h4
theorem xLs.sto2 {nL i : Nat} {lv : XL} {ls' : Array Slot} {v : Value} (hl : lv.length = nL) (h : lv_has ls' nL ((i, v) :: (xasc lv).filter (fun q => !(q.1 == i) && (!(q.1 == i + 1) && !(q.1 + 1 == i && q.2.category == 2))))) : xLs nL (xsto2 lv i v) ls' := by
  refine ⟨by rw [xsto2, xlen_upd, xlen_upd, xlen_clr, hl], h.1, h.2.1, fun j w hj => ?_⟩
  rw [xsto2, xnth_upd] at hj
  by_cases hi1 : i + 1 = j
  · rw [if_pos hi1] at hj
    split at hj <;> cases hj
  rw [if_neg hi1, xnth_upd] at hj
  by_cases hij : i = j
  · rw [if_pos hij] at hj
    split at hj
    · cases hj
      exact h.2.2 (j, v) (by rw [hij]; exact List.mem_cons_self)
    · cases hj
  · rw [if_neg hij] at hj
    obtain ⟨h1, h2⟩ := xnth_clr hj
    refine h.2.2 (j, w) (List.mem_cons_of_mem _ (List.mem_filter.mpr ⟨xasc_mem.mpr h1, ?_⟩))
    have h3 : ¬ j = i := fun q => hij q.symm
    have h5 : ¬ j = i + 1 := fun q => hi1 q.symm
    simp only [Bool.and_eq_true, Bool.not_eq_true', beq_eq_false_iff_ne, ne_eq, h3, h5, not_false_eq_true, true_and, Bool.and_eq_false_iff]
    by_cases h4 : j + 1 = i
    · exact Or.inr fun q => h2 ⟨h4, q⟩
    · exact Or.inl h4
