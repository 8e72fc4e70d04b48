/-! The reference reads acts, arrows, a line, a text. -/
set_option linter.unusedVariables false
section RLI
variable {E : XG} {h h' h1 h2 : XH} {Y i g0 : Nat} {B : BF} {t : TK} {er : ER} {S : SD} {T : ST} {D : Nat → Int32} {A : Nat → Nat → Prop}
theorem ey_c2 (hg : sna S < 8) {n base : Nat} (hn : n ≤ 8) (hb : base = 432 + 8 * sna S ∨ base = 496 + 8 * sna S) (w : fW (eY Y base n) noR h h') : fW (cY Y S) noR h h' := w.wide (fun a j q => by
  rcases q with q | q
  · exact Or.inl q
  · exact Or.inr (Or.inr (Or.inr ⟨hg, Or.inr ⟨q.1, by omega⟩⟩))) (fun a j q => q)
end RLI
