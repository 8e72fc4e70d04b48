/-! The reference: where its rows lie, groups and modules in it. -/
set_option linter.unusedVariables false
theorem li48 : (48 : Int32) = nI 48 := rfl
theorem li24 : (24 : Int32) = nI 24 := rfl
theorem li432 : (432 : Int32) = nI 432 := rfl
theorem li496 : (496 : Int32) = nI 496 := rfl
theorem li560 : (560 : Int32) = nI 560 := rfl
theorem li563 : (563 : Int32) = nI 563 := rfl
theorem li3941 : (3941 : Int32) = nI 3941 := rfl
theorem nI_00 : (0 : Int32) = nI 0 := rfl
theorem nI_o (a : Nat) : nI a + (0 : Int32) = nI a := or_1e _
theorem o_nI (x : Int32) : (0 : Int32) + x = x := by
  apply Int32.toBitVec_inj.mp
  simp
section YGS
variable {E : XG} {h : XH} {Y g n : Nat} {t : Nat → Nat → Nat} {v : Nat → Nat}
end YGS
section YMS
variable {E : XG} {h : XH} {Y m u l : Nat} {d : MD}
end YMS
