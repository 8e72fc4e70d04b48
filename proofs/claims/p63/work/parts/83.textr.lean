/-! The reference reads arrows, a line, a text. -/
set_option linter.unusedVariables false
section RLI
variable {E : XG} {h h' h1 h2 : XH} {Y i g0 : Nat} {B : BF} {t : TK} {er : ER} {S : SD} {T : ST} {D : Nat → Int32} {A : Nat → Nat → Prop}
/-- where reading writes -/
def yRd (Y : Nat) : Nat → Nat → Prop := fun a j => (a = Y ∧ 20 ≤ j ∧ j ≤ 26) ∨ (a = Y ∧ 35 ≤ j ∧ j ≤ 37) ∨ (Y + 12 ≤ a ∧ a ≤ Y + 20)
end RLI
