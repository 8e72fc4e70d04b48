/-! Changes, the reference: the state's cells, states kept. -/
set_option linter.unusedVariables false
theorem WS.b8 {S : SD} (W : WS S) {m : Nat} (hm : m < snm S) : m < 6 ∧ nuS S m ≤ 8 ∧ nlS2 S m ≤ 8 := by
  obtain ⟨⟨v1, v2, v3⟩, v4, v5, v6⟩ := W
  exact ⟨by omega, (v4 _ (v5 m hm).1).1.2, (v4 _ (v5 m hm).2).1.2⟩
theorem WS.a8 {S : SD} (W : WS S) {a : Nat} (ha : a < sna S) : a < 8 ∧ nuS S (saf S a) ≤ 8 ∧ nlS2 S (saf S a) ≤ 8 := by
  have b := W.b8 (W.2.2.2 a ha).1
  exact ⟨by have := W.1; omega, b.2⟩
section TRS
variable {E : XG} {h h' : XH} {R R' o o' : Nat} {S : SD} {T : ST}
end TRS
section REF
variable {E : XG} {h h' : XH} {Y : Nat} {Z : ZD} {B : Nat → Prop}
theorem i563 (p i : Nat) : (563 : Int32) * nI p + nI i = nI (563 * p + i) := by rw [show (563 : Int32) = nI 563 from rfl, nI_m, nI_a]
end REF
