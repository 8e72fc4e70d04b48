/-! Class and reference answer alike: profiles, which are alike, large groups. -/
set_option linter.unusedVariables false
section AG
variable {E : XG} {h : XH} {X Y O : Nat} {Z : ZD}
theorem md_d {a n g : Nat} (h : g < n) : (a * n + g) / n = a := by
  rw [Nat.mul_comm, Nat.mul_add_div (by omega), Nat.div_eq_of_lt h, Nat.add_zero]
theorem md_m {a n g : Nat} (h : g < n) : (a * n + g) % n = g := by
  rw [Nat.mul_comm, Nat.mul_add_mod, Nat.mod_eq_of_lt h]
end AG
