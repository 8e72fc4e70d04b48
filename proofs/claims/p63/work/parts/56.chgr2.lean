/-! Changes, the reference: each of them. -/
set_option linter.unusedVariables false
theorem xo_jsel {α : Type} {c : Prop} [Decidable c] {k : Int32 → XH → XP α} {x y : Int32} {h : XH} {Q : α → XH → Prop} (hm : xo (k (if c then x else y) h) Q) : xo (xjn k fun j => if c then j x h else j y h) Q := by
  show xo (if c then k x h else k y h) Q
  by_cases q : c
  · rw [if_pos q] at hm ⊢; exact hm
  · rw [if_neg q] at hm ⊢; exact hm
theorem i48 (m g a : Nat) : (48 : Int32) + 64 * nI m + 8 * nI g + nI a = nI (48 + 64 * m + 8 * g + a) := by rw [show (48 : Int32) = nI 48 from rfl, show (64 : Int32) = nI 64 from rfl, li8, nI_m, nI_m, nI_a, nI_a, nI_a]
theorem i432 (a b : Nat) : (432 : Int32) + 8 * nI a + nI b = nI (432 + 8 * a + b) := by rw [show (432 : Int32) = nI 432 from rfl, li8, nI_m, nI_a, nI_a]
theorem i496 (a b : Nat) : (496 : Int32) + 8 * nI a + nI b = nI (496 + 8 * a + b) := by rw [show (496 : Int32) = nI 496 from rfl, li8, nI_m, nI_a, nI_a]
theorem zch_TT (Z : ZD) : zsT (zch Z) (T1 (zT Z)) = zch Z := by unfold zch; split <;> rfl
section REG
variable {E : XG} {h h' : XH} {Y : Nat} {Z : ZD}
end REG
