/-! The reference's pairs, large groups and arrows. -/
set_option linter.unusedVariables false
theorem bI_01 (b : Bool) : bI b = 0 ∨ bI b = 1 := by cases b <;> simp [bI]
theorem fl_e (c : Prop) [Decidable c] : (if c then (1 : Int32) else 0) = bI (decide c) := by
  by_cases q : c <;> simp [q, bI]
section YMS
variable {E : XG} {h : XH} {Y m u l o v k a : Nat} {d e : MD} {tp bt : Nat → Nat}
end YMS
