/-! All that a text tells (S) and what changes (T); the reference's rows of them. -/
set_option linter.unusedVariables false
/-- counts of groups, modules, arrows; the groups; a module's groups; an arrow's modules; names by sort and place -/
abbrev SD : Type := (Nat × Nat × Nat) × (Nat → Nat × (Nat → Nat → Nat) × (Nat → Nat)) × (Nat → Nat × Nat) × (Nat → Nat × Nat) × (Nat → Nat → List Nat)
def sng (S : SD) : Nat := S.1.1
def snm (S : SD) : Nat := S.1.2.1
def sna (S : SD) : Nat := S.1.2.2
def sgn (S : SD) (g : Nat) : Nat := (S.2.1 g).1
def sgt (S : SD) (g : Nat) : Nat → Nat → Nat := (S.2.1 g).2.1
def sgv (S : SD) (g : Nat) : Nat → Nat := (S.2.1 g).2.2
def smu (S : SD) (m : Nat) : Nat := (S.2.2.1 m).1
def sml (S : SD) (m : Nat) : Nat := (S.2.2.1 m).2
def saf (S : SD) (a : Nat) : Nat := (S.2.2.2.1 a).1
def sao (S : SD) (a : Nat) : Nat := (S.2.2.2.1 a).2
def snn (S : SD) (s k : Nat) : List Nat := S.2.2.2.2 s k
/-- boundaries, actions, tops, bottoms, accounts -/
abbrev ST : Type := (Nat → Nat → Nat) × (Nat → Nat → Nat → Nat) × (Nat → Nat → Nat) × (Nat → Nat → Nat) × (Nat → Int32)
def tbd (T : ST) : Nat → Nat → Nat := T.1
def tac (T : ST) : Nat → Nat → Nat → Nat := T.2.1
def ttp (T : ST) : Nat → Nat → Nat := T.2.2.1
def tbt (T : ST) : Nat → Nat → Nat := T.2.2.2.1
def tcc (T : ST) : Nat → Int32 := T.2.2.2.2
/-- the module m -/
def mdS (S : SD) (T : ST) (m : Nat) : MD := (sgn S (smu S m), sgt S (smu S m), sgv S (smu S m), sgn S (sml S m), sgt S (sml S m), sgv S (sml S m), tbd T m, tac T m)
def nuS (S : SD) (m : Nat) : Nat := sgn S (smu S m)
def nlS2 (S : SD) (m : Nat) : Nat := sgn S (sml S m)
def whS (S : SD) (T : ST) (m : Nat) : Nat := whyS (mdS S T m)
/-- groups are groups, names are names -/
def WS (S : SD) : Prop := (sng S ≤ 6 ∧ snm S ≤ 6 ∧ sna S ≤ 8) ∧ (∀ g, g < sng S → (0 < sgn S g ∧ sgn S g ≤ 8) ∧ GA (sgn S g) (sgt S g) (sgv S g)) ∧ (∀ m, m < snm S → smu S m < sng S ∧ sml S m < sng S) ∧ (∀ a, a < sna S → saf S a < snm S ∧ sao S a < snm S)
def WT (S : SD) (T : ST) : Prop := (∀ m a, m < snm S → a < nuS S m → tbd T m a < nlS2 S m) ∧ (∀ m g a, m < snm S → g < nlS2 S m → a < nuS S m → tac T m g a < nuS S m) ∧ (∀ a x, a < sna S → x < nuS S (saf S a) → ttp T a x < nuS S (sao S a)) ∧ ∀ a x, a < sna S → x < nlS2 S (saf S a) → tbt T a x < nlS2 S (sao S a)
section MIS
variable {E : XG} {h : XH} {Y : Nat} {S : SD} {T : ST}
theorem WS.gd (W : WS S) {m : Nat} (hm : m < snm S) : GD (mdS S T m) := ⟨(W.2.1 _ (W.2.2.1 m hm).1).2, (W.2.1 _ (W.2.2.1 m hm).2).2⟩
theorem WS.wd (W : WS S) (w : WT S T) {m : Nat} (hm : m < snm S) : Wd (mdS S T m) := by
  obtain ⟨h1, h2⟩ := W.2.2.1 m hm
  obtain ⟨⟨a1, a2⟩, a3⟩ := W.2.1 _ h1
  obtain ⟨⟨b1, b2⟩, b3⟩ := W.2.1 _ h2
  exact ⟨⟨a1, a2, b1, b2⟩, a3.1, a3.2.1, b3.1, b3.2.1, fun a ha => w.1 m a hm ha, fun g a hg ha => w.2.1 m g a hm hg ha⟩
/-- is the arrow a an equivalence -/
def eqA (S : SD) (T : ST) (a : Nat) : Bool := eqS (mdS S T (saf S a)) (mdS S T (sao S a)) (ttp T a) (tbt T a)
def eqsS (S : SD) (T : ST) : Int32 := orI (fun a => if eqA S T a then sh a else 0) (sna S)
def lawS (S : SD) (T : ST) : Int32 := orI (fun m => if whS S T m = 0 then sh m else 0) (snm S)
def owS (S : SD) (by' s : Int32) : Int32 := fld (fun a x => if mb by' a && (mb s (saf S a) || mb s (sao S a)) then x ||| (sh (saf S a) ||| sh (sao S a)) else x) s (sna S)
def rcS (S : SD) (by' s : Int32) : Nat → Int32 := fld (fun _ x => owS S by' x) s
/-- the first module alike m -/
def flS (S : SD) (T : ST) (m : Nat) : Nat := fi m (fun o => decide (whS S T o = 0) && alS (mdS S T o) (mdS S T m))
theorem xi_at {h : XH} {a : Nat} {k : Int32} {j : Nat} {x : Int32} (e : xi h a j = x) : xi h a j = x := e
theorem ow_step (S : SD) (b s x : Int32) (i : Nat) : fld (fun a x => if mb b a && (mb s (saf S a) || mb s (sao S a)) then x ||| (sh (saf S a) ||| sh (sao S a)) else x) s (i + 1) = if mb b i && (mb s (saf S i) || mb s (sao S i)) then fld (fun a x => if mb b a && (mb s (saf S a) || mb s (sao S a)) then x ||| (sh (saf S a) ||| sh (sao S a)) else x) s i ||| (sh (saf S i) ||| sh (sao S i)) else fld (fun a x => if mb b a && (mb s (saf S a) || mb s (sao S a)) then x ||| (sh (saf S a) ||| sh (sao S a)) else x) s i := rfl
end MIS
