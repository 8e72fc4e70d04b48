/-! What the class leaves alone; the form of an answer for the law. -/
set_option linter.unusedVariables false
/-- what lies behind the class's rows stays -/
def FRm (X : Nat) (h h1 : XH) : Prop := xt h ≤ xt h1 ∧ ∀ a, X + 223 ≤ a → a < xt h → (xk h1 a = xk h a ∧ xn h1 a = xn h a) ∧ (∀ j, xi h1 a j = xi h a j) ∧ (∀ j, xj h1 a j = xj h a j) ∧ ∀ j, xr h1 a j = xr h a j
theorem FRm_iw {X : Nat} {h h1 : XH} (i : iw (rXa X) h h1) : FRm X h h1 :=
  ⟨by rw [i.t]; exact Nat.le_refl _, fun a q1 q2 => ⟨⟨i.k a, i.n a⟩, fun j => i.i j (fun q => by unfold rXa at q; omega), fun j => i.j a j, fun j => i.r a j⟩⟩
theorem FRm_trans {X : Nat} {h h1 h2 : XH} (p : FRm X h h1) (q : FRm X h1 h2) : FRm X h h2 :=
  ⟨Nat.le_trans p.1 q.1, fun a q1 q2 => by
    obtain ⟨⟨a1, a2⟩, a3, a4, a5⟩ := p.2 a q1 q2
    obtain ⟨⟨b1, b2⟩, b3, b4, b5⟩ := q.2 a q1 (Nat.lt_of_lt_of_le q2 p.1)
    exact ⟨⟨b1.trans a1, b2.trans a2⟩, fun j => (b3 j).trans (a3 j), fun j => (b4 j).trans (a4 j), fun j => (b5 j).trans (a5 j)⟩⟩
/-- what the class holds stays when a long is put, the end grows, the reference writes -/
theorem XI_yj {h : XH} {X w s f : Nat} {Z : ZD} (x : XI h X w s f Z) {O : Nat} (hO : X + 223 ≤ O) (k : Nat) (v : Int64) : XI (yj h O k v) X w s f Z := by
  have ws := x.ws
  have h6 := x.ci.1.1.1
  obtain ⟨x1, ⟨x7, x8⟩, x9⟩ := x
  refine ⟨x1, ⟨x7, fun s k hs hk => ⟨?_, (x8 s k hs hk).2⟩⟩, x9⟩
  show (if w + 2 + 3 * s = O ∧ _ then _ else xj h (w + 2 + 3 * s) k) = _
  rw [if_neg (fun q => by omega)]
  exact (x8 s k hs hk).1
