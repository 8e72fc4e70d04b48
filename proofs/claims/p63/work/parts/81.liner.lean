/-! The reference reads modules, acts, arrows. -/
set_option linter.unusedVariables false
/-- where elements are laid -/
def eY (Y base n : Nat) : Nat → Nat → Prop := fun a j => oY Y a j ∨ (a = Y + 12 ∧ base ≤ j ∧ j < base + n)
theorem xo_wz {α : Type} {h : XH} {a n : Nat} {x : Int32} {f : XH → XP α} {Q : α → XH → Prop} (hn : n < 2 ^ 31) (hm : ∀ h', h' = yi h a n x → xo (f h') Q) : xo (xlt (yi h a (nI n).toNatClampNeg x) f) Q := by
  rw [xz_nI hn]
  exact hm _ rfl
section RLI
variable {E : XG} {h h' h1 h2 : XH} {Y i g0 : Nat} {B : BF} {t : TK} {er : ER} {S : SD} {T : ST} {D : Nat → Int32} {A : Nat → Nat → Prop}
theorem eEl_mono {e : Nat × Nat} {hi i n : Nat} (h : eo er (eEl B hi t i) = some e) (hin : i ≤ n) : eo er (eEl B hi t n) = some e := by
  induction n with
  | zero => rw [show i = 0 by omega] at h; exact h
  | succ n ih =>
    by_cases z : i = n + 1
    · rw [z] at h; exact h
    · have := ih (by omega)
      show eo er (eo (eEl B hi t n) _) = some e
      rw [← eo_as, this]
      rfl
theorem fw_ey {base n : Nat} (w : fW (eY Y base n) noR h h') : fW (yAll Y) noR h h' := w.wide (fun a j q => by unfold eY oY at q; unfold yAll; omega) (fun a j q => q)
theorem ey_c (hg : snm S < 6) {n : Nat} (hn : n ≤ 8) (w : fW (eY Y (8 * snm S) n) noR h h') : fW (cY Y S) noR h h' := w.wide (fun a j q => by
  rcases q with q | q
  · exact Or.inl q
  · exact Or.inr (Or.inr (Or.inl ⟨hg, Or.inr ⟨q.1, Or.inl ⟨q.2.1, by omega⟩⟩⟩))) (fun a j q => q)
end RLI
