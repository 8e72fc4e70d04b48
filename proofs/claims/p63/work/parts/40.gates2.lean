/-! The reference's tests ahead of its calls. -/
set_option linter.unusedVariables false
section GATE
variable {E : XG} {h : XH} {X Y w s f : Nat} {Z : ZD}
theorem sh8 (n : Nat) (hn : n ≤ 8) : (1 : Int32) <<< (nI n &&& 31) = nI (2 ^ n) := by rw [sh_d, sh_eq (by omega)]
end GATE
