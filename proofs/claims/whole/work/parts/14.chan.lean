/- Part 13: small methods of Channel and Promise. -/
section X13
variable {D : va_G} {N0 : Nat} {d : Nat} {h : XH}
/-- an end without a change: it answers v -/
def xRet (h : XH) (v : Value) : Outcome → XH → Prop := fun o u => o = .returned (some v) ∧ u = h
def xB (b : Bool) : Value := .int (bif b then 1 else 0)
theorem c_joins {a : Nat} {f g n : Int32} {r : List Value} (ha : xget h a = some (.inr (4, .int f :: .int g :: r))) :
    xV D N0 mC_joins d 0 (xargs 2 [.ref a, .int n]) [] h (xRet h (xB (decide (n = f ∨ n = g)))) := by
  refine xV.step rfl ?_
  refine xV.step rfl ?_
  refine xV.get xcl_ok rfl ha rfl ?_
  refine xV.br rfl (fun h1 => ?_) (fun h1 => ?_)
  · refine xV.step rfl ?_
    refine xV.step rfl ?_
    refine xV.iret rfl rfl rfl ⟨?_, rfl⟩
    simp [xB, h1]
  · refine xV.step rfl ?_
    refine xV.step rfl ?_
    refine xV.get xcl_ok rfl ha rfl ?_
    refine xV.br rfl (fun h2 => ?_) (fun h2 => ?_)
    · refine xV.step rfl ?_
      refine xV.step rfl ?_
      refine xV.iret rfl rfl rfl ⟨?_, rfl⟩
      simp [xB, h2]
    · refine xV.step rfl ?_
      refine xV.iret rfl rfl rfl ⟨?_, rfl⟩
      simp [xB, h1, h2]
end X13
