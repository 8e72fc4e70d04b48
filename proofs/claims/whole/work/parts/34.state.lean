/-! All that a text tells (S) and what changes (T); the reference's rows of them. -/
set_option linter.unusedVariables false
/-- counts of groups, modules, arrows; the groups; a module's groups; an arrow's modules; names by sort and place -/
abbrev SD : Type := (Nat × Nat × Nat) × (Nat → Nat × (Nat → Nat → Nat) × (Nat → Nat)) × (Nat → Nat × Nat) × (Nat → Nat × Nat) × (Nat → Nat → List Nat)
def sng (S : SD) : Nat := S.1.1
def snm (S : SD) : Nat := S.1.2.1
def sna (S : SD) : Nat := S.1.2.2
def sgn (S : SD) (g : Nat) : Nat := (S.2.1 g).1
def sgt (S : SD) (g : Nat) : Nat → Nat → Nat := (S.2.1 g).2.1
def sgv (S : SD) (g : Nat) : Nat → Nat := (S.2.1 g).2.2
def smu (S : SD) (m : Nat) : Nat := (S.2.2.1 m).1
def sml (S : SD) (m : Nat) : Nat := (S.2.2.1 m).2
def saf (S : SD) (a : Nat) : Nat := (S.2.2.2.1 a).1
def sao (S : SD) (a : Nat) : Nat := (S.2.2.2.1 a).2
def snn (S : SD) (s k : Nat) : List Nat := S.2.2.2.2 s k
/-- boundaries, actions, tops, bottoms, accounts -/
abbrev ST : Type := (Nat → Nat → Nat) × (Nat → Nat → Nat → Nat) × (Nat → Nat → Nat) × (Nat → Nat → Nat) × (Nat → Int32)
def tbd (T : ST) : Nat → Nat → Nat := T.1
def tac (T : ST) : Nat → Nat → Nat → Nat := T.2.1
def ttp (T : ST) : Nat → Nat → Nat := T.2.2.1
def tbt (T : ST) : Nat → Nat → Nat := T.2.2.2.1
def tcc (T : ST) : Nat → Int32 := T.2.2.2.2
/-- the module m -/
def mdS (S : SD) (T : ST) (m : Nat) : MD := (sgn S (smu S m), sgt S (smu S m), sgv S (smu S m), sgn S (sml S m), sgt S (sml S m), sgv S (sml S m), tbd T m, tac T m)
def nuS (S : SD) (m : Nat) : Nat := sgn S (smu S m)
def nlS2 (S : SD) (m : Nat) : Nat := sgn S (sml S m)
def whS (S : SD) (T : ST) (m : Nat) : Nat := whyS (mdS S T m)
/-- groups are groups, names are names -/
def WS (S : SD) : Prop := (sng S ≤ 6 ∧ snm S ≤ 6 ∧ sna S ≤ 8) ∧ (∀ g, g < sng S → (0 < sgn S g ∧ sgn S g ≤ 8) ∧ GA (sgn S g) (sgt S g) (sgv S g)) ∧ (∀ m, m < snm S → smu S m < sng S ∧ sml S m < sng S) ∧ (∀ a, a < sna S → saf S a < snm S ∧ sao S a < snm S)
def WT (S : SD) (T : ST) : Prop := (∀ m a, m < snm S → a < nuS S m → tbd T m a < nlS2 S m) ∧ (∀ m g a, m < snm S → g < nlS2 S m → a < nuS S m → tac T m g a < nuS S m) ∧ (∀ a x, a < sna S → x < nuS S (saf S a) → ttp T a x < nuS S (sao S a)) ∧ ∀ a x, a < sna S → x < nlS2 S (saf S a) → tbt T a x < nlS2 S (sao S a)
/-- the row R holds T from o on, as the reference lays it -/
def TR (h : XH) (R o : Nat) (S : SD) (T : ST) : Prop := (∀ m a, m < snm S → a < nuS S m → xi h R (o + (8 * m + a)) = nI (tbd T m a)) ∧ (∀ m g a, m < snm S → g < nlS2 S m → a < nuS S m → xi h R (o + (48 + 64 * m + 8 * g + a)) = nI (tac T m g a)) ∧ (∀ a x, a < sna S → x < nuS S (saf S a) → xi h R (o + (432 + 8 * a + x)) = nI (ttp T a x)) ∧ (∀ a x, a < sna S → x < nlS2 S (saf S a) → xi h R (o + (496 + 8 * a + x)) = nI (tbt T a x)) ∧ ∀ w, w < 3 → xi h R (o + (560 + w)) = tcc T w
/-- the reference's rows of S (groups, what modules and arrows stand on, names) -/
def MS (h : XH) (Y : Nat) (S : SD) : Prop := YL h Y ∧ (∀ g, g < sng S → xi h (Y + 1) g = nI (sgn S g) ∧ ∀ a b, a < sgn S g → b < sgn S g → xi h (Y + 2) (64 * g + 8 * a + b) = nI (sgt S g a b)) ∧ (∀ m, m < snm S → xi h (Y + 3) m = nI (smu S m) ∧ xi h (Y + 4) m = nI (sml S m)) ∧ (∀ a, a < sna S → xi h (Y + 5) a = nI (saf S a) ∧ xi h (Y + 6) a = nI (sao S a))
def MC (h : XH) (Y : Nat) (S : SD) : Prop := xi h Y 2 = nI (sng S) ∧ xi h Y 3 = nI (snm S) ∧ xi h Y 4 = nI (sna S)
/-- the reference holds S and T -/
def MI (h : XH) (Y : Nat) (S : SD) (T : ST) : Prop := (WS S ∧ WT S T) ∧ MC h Y S ∧ MS h Y S ∧ TR h (Y + 8) 0 S T
section MIS
variable {E : XG} {h : XH} {Y : Nat} {S : SD} {T : ST}
theorem WS.gd (W : WS S) {m : Nat} (hm : m < snm S) : GD (mdS S T m) := ⟨(W.2.1 _ (W.2.2.1 m hm).1).2, (W.2.1 _ (W.2.2.1 m hm).2).2⟩
theorem WS.wd (W : WS S) (w : WT S T) {m : Nat} (hm : m < snm S) : Wd (mdS S T m) := by
  obtain ⟨h1, h2⟩ := W.2.2.1 m hm
  obtain ⟨⟨a1, a2⟩, a3⟩ := W.2.1 _ h1
  obtain ⟨⟨b1, b2⟩, b3⟩ := W.2.1 _ h2
  exact ⟨⟨a1, a2, b1, b2⟩, a3.1, a3.2.1, b3.1, b3.2.1, fun a ha => w.1 m a hm ha, fun g a hg ha => w.2.1 m g a hm hg ha⟩
theorem MS.yg (M : MS h Y S) (W : WS S) {g : Nat} (hg : g < sng S) : YG h Y g (sgn S g) (sgt S g) := by
  have h6 := W.1.1
  obtain ⟨⟨a1, a2⟩, a3⟩ := W.2.1 g hg
  exact ⟨by omega, (M.2.1 g hg).1, a1, a2, fun a b ha hb => ⟨(M.2.1 g hg).2 a b ha hb, a3.1 a b ha hb⟩⟩
theorem MS.ym (M : MS h Y S) (W : WS S) (w : WT S T) (t : TR h (Y + 8) 0 S T) {m : Nat} (hm : m < snm S) : YM h Y m (smu S m) (sml S m) (mdS S T m) := by
  have h6 := W.1.2.1
  obtain ⟨h1, h2⟩ := W.2.2.1 m hm
  refine ⟨⟨M.1, by omega⟩, M.2.2.1 m hm, ⟨M.yg W h1, M.yg W h2⟩, fun a ha => ⟨?_, w.1 m a hm ha⟩, fun g a hg ha => ⟨?_, w.2.1 m g a hm hg ha⟩⟩
  · have := t.1 m a hm ha
    rw [Nat.zero_add] at this
    exact this
  · have := t.2.1 m g a hm hg ha
    rw [Nat.zero_add] at this
    exact this
theorem MS.ya (M : MS h Y S) (W : WS S) (w : WT S T) (t : TR h (Y + 8) 0 S T) {a : Nat} (ha : a < sna S) : YA h Y a (saf S a) (smu S (saf S a)) (sml S (saf S a)) (sao S a) (smu S (sao S a)) (sml S (sao S a)) (mdS S T (saf S a)) (mdS S T (sao S a)) (ttp T a) (tbt T a) := by
  have h8 := W.1.2.2
  obtain ⟨h1, h2⟩ := W.2.2.2 a ha
  refine ⟨⟨by omega, M.2.2.2 a ha⟩, ⟨M.ym W w t h1, M.ym W w t h2⟩, fun x hx => ⟨?_, w.2.2.1 a x ha hx⟩, fun x hx => ⟨?_, w.2.2.2 a x ha hx⟩⟩
  · have := t.2.2.1 a x ha hx
    rw [Nat.zero_add] at this
    exact this
  · have := t.2.2.2.1 a x ha hx
    rw [Nat.zero_add] at this
    exact this
theorem MI.ym (M : MI h Y S T) {m : Nat} (hm : m < snm S) : YM h Y m (smu S m) (sml S m) (mdS S T m) := M.2.2.1.ym M.1.1 M.1.2 M.2.2.2 hm
theorem MI.ya (M : MI h Y S T) {a : Nat} (ha : a < sna S) : YA h Y a (saf S a) (smu S (saf S a)) (sml S (saf S a)) (sao S a) (smu S (sao S a)) (sml S (sao S a)) (mdS S T (saf S a)) (mdS S T (sao S a)) (ttp T a) (tbt T a) := M.2.2.1.ya M.1.1 M.1.2 M.2.2.2 ha
theorem MI.yg (M : MI h Y S T) {g : Nat} (hg : g < sng S) : YG h Y g (sgn S g) (sgt S g) := M.2.2.1.yg M.1.1 hg
theorem MI.y (M : MI h Y S T) : YL h Y := M.2.2.1.1
theorem MI.gd (M : MI h Y S T) {m : Nat} (hm : m < snm S) : GD (mdS S T m) := M.1.1.gd hm
theorem MI.wd (M : MI h Y S T) {m : Nat} (hm : m < snm S) : Wd (mdS S T m) := M.1.1.wd M.1.2 hm
theorem TR.iw {h' : XH} {R o : Nat} {B : Nat → Prop} (t : TR h R o S T) (w : iw B h h') (h0 : ¬ B R) : TR h' R o S T := by
  refine ⟨fun m a q1 q2 => ?_, fun m g a q1 q2 q3 => ?_, fun a x q1 q2 => ?_, fun a x q1 q2 => ?_, fun x q1 => ?_⟩
  · rw [w.i _ h0]; exact t.1 m a q1 q2
  · rw [w.i _ h0]; exact t.2.1 m g a q1 q2 q3
  · rw [w.i _ h0]; exact t.2.2.1 a x q1 q2
  · rw [w.i _ h0]; exact t.2.2.2.1 a x q1 q2
  · rw [w.i _ h0]; exact t.2.2.2.2 x q1
theorem MS.iw {h' : XH} {B : Nat → Prop} (M : MS h Y S) (w : iw B h h') (hB : ∀ a, B a → a < Y + 1 ∨ Y + 6 < a) : MS h' Y S := by
  refine ⟨M.1.iw w, fun g hg => ⟨?_, fun a b ha hb => ?_⟩, fun m hm => ⟨?_, ?_⟩, fun a ha => ⟨?_, ?_⟩⟩
  · rw [w.i _ (fun q => by have := hB _ q; omega)]; exact (M.2.1 g hg).1
  · rw [w.i _ (fun q => by have := hB _ q; omega)]; exact (M.2.1 g hg).2 a b ha hb
  · rw [w.i _ (fun q => by have := hB _ q; omega)]; exact (M.2.2.1 m hm).1
  · rw [w.i _ (fun q => by have := hB _ q; omega)]; exact (M.2.2.1 m hm).2
  · rw [w.i _ (fun q => by have := hB _ q; omega)]; exact (M.2.2.2 a ha).1
  · rw [w.i _ (fun q => by have := hB _ q; omega)]; exact (M.2.2.2 a ha).2
theorem MI.iw {h' : XH} {B : Nat → Prop} (M : MI h Y S T) (w : iw B h h') (hB : ∀ a, B a → a < Y ∨ Y + 8 < a) : MI h' Y S T :=
  ⟨M.1, ⟨by rw [w.i _ (fun q => by have := hB _ q; omega)]; exact M.2.1.1, by rw [w.i _ (fun q => by have := hB _ q; omega)]; exact M.2.1.2.1, by rw [w.i _ (fun q => by have := hB _ q; omega)]; exact M.2.1.2.2⟩, M.2.2.1.iw w (fun a q => by have := hB a q; omega), M.2.2.2.iw w (fun q => by have := hB _ q; omega)⟩
/-- a field of the reference that is none of the counts -/
theorem MI_fld (M : MI h Y S T) (k : Nat) (x : Int32) (hk : ¬ k = 2 ∧ ¬ k = 3 ∧ ¬ k = 4) : MI (yi h Y k x) Y S T :=
  have w : iw (fun a => a = Y) h (yi h Y k x) := iw_yi _ _ _ _ rfl
  ⟨M.1, ⟨by rw [xi_yi2 _ _ (Or.inr (by omega))]; exact M.2.1.1, by rw [xi_yi2 _ _ (Or.inr (by omega))]; exact M.2.1.2.1, by rw [xi_yi2 _ _ (Or.inr (by omega))]; exact M.2.1.2.2⟩, M.2.2.1.iw w (fun a q => by omega), M.2.2.2.iw w (by omega)⟩
/-- is the arrow a an equivalence -/
def eqA (S : SD) (T : ST) (a : Nat) : Bool := eqS (mdS S T (saf S a)) (mdS S T (sao S a)) (ttp T a) (tbt T a)
def eqsS (S : SD) (T : ST) : Int32 := orI (fun a => if eqA S T a then sh a else 0) (sna S)
def lawS (S : SD) (T : ST) : Int32 := orI (fun m => if whS S T m = 0 then sh m else 0) (snm S)
def owS (S : SD) (by' s : Int32) : Int32 := fld (fun a x => if mb by' a && (mb s (saf S a) || mb s (sao S a)) then x ||| (sh (saf S a) ||| sh (sao S a)) else x) s (sna S)
def rcS (S : SD) (by' s : Int32) : Nat → Int32 := fld (fun _ x => owS S by' x) s
/-- the first module alike m -/
def flS (S : SD) (T : ST) (m : Nat) : Nat := fi m (fun o => decide (whS S T o = 0) && alS (mdS S T o) (mdS S T m))
theorem xi_at {h : XH} {a : Nat} {k : Int32} {j : Nat} {x : Int32} (e : xi h a j = x) : xi h a j = x := e
theorem FX9_allEqual_o (M : MI h Y S T) : xo (FX9_allEqual E Y h) (fun r h' => r = eqsS S T ∧ iw (rEq Y) h h') := by
  have ap : ∀ a, rEq Y a → a < Y ∨ Y + 8 < a := fun a q => by unfold rEq at q; omega
  have h8 := M.1.1.1.2.2
  unfold FX9_allEqual
  refine xlp_inv (Po := fun m => xo m _) (fun i s h' => s = (orI (fun a => if eqA S T a then sh a else 0) i, nI i) ∧ iw (rEq Y) h h') (sna S) (by omega) (fun i s h' ag hi I again => ?_) ⟨rfl, iw.refl _ _⟩
  obtain ⟨rfl, iW⟩ := I
  have M2 := M.iw iW ap
  refine xo_g M2.y.1 ?_
  rw [M2.2.1.2.2]
  by_cases e : i = sna S
  · subst e
    exact xo_t (Int32.le_refl _) (xo_v ⟨rfl, iW⟩)
  · have hlt : i < sna S := by omega
    obtain ⟨q1, q2⟩ := M.1.1.2.2.2 i hlt
    refine xo_f (nI_ge hlt (by omega)) (xo_g M2.y.1 (xo_b (FX9_isEqual_o (M2.ya hlt) (M.gd q1) (M.gd q2)) (fun v h3 q3 => ?_)))
    obtain ⟨rfl, i3⟩ := q3
    have i3 : iw (rEq Y) h h3 := iW.trans i3 (fun _ q => q) (fun _ q => q)
    refine xo_jn ?_
    have e0 : eqS (mdS S T (saf S i)) (mdS S T (sao S i)) (ttp T i) (tbt T i) = eqA S T i := rfl
    rw [e0]
    dsimp only
    rw [nI_s]
    cases hq : eqA S T i
    · refine xo_t rfl (xo_lt (again hlt _ _ ⟨?_, i3⟩))
      rw [orI_s, hq]
      rfl
    · refine xo_f (by decide) (xo_lt (again hlt _ _ ⟨?_, i3⟩))
      rw [orI_s, hq]
      rfl
theorem ow_step (S : SD) (b s x : Int32) (i : Nat) : fld (fun a x => if mb b a && (mb s (saf S a) || mb s (sao S a)) then x ||| (sh (saf S a) ||| sh (sao S a)) else x) s (i + 1) = if mb b i && (mb s (saf S i) || mb s (sao S i)) then fld (fun a x => if mb b a && (mb s (saf S a) || mb s (sao S a)) then x ||| (sh (saf S a) ||| sh (sao S a)) else x) s i ||| (sh (saf S i) ||| sh (sao S i)) else fld (fun a x => if mb b a && (mb s (saf S a) || mb s (sao S a)) then x ||| (sh (saf S a) ||| sh (sao S a)) else x) s i := rfl
theorem FX9_onward_v (M : MI h Y S T) (s b : Int32) : FX9_onward E Y s b h = xv (owS S b s) h := by
  have h8 := M.1.1.1.2.2
  have h6 := M.1.1.1.2.1
  have y := M.y
  unfold FX9_onward
  refine xlp_all (fun i => (fld (fun a x => if mb b a && (mb s (saf S a) || mb s (sao S a)) then x ||| (sh (saf S a) ||| sh (sao S a)) else x) s i, nI i)) (fun _ => h) (sna S) (by omega) (fun i hi ag => ?_) (fun ag => ?_)
  · have hc : ¬ sna S ≤ i := by omega
    obtain ⟨q1, q2⟩ := M.1.1.2.2.2 i hi
    obtain ⟨q3, q4⟩ := M.2.2.1.2.2.2 i hi
    have r5 : xi h (Y + 5) (nI i).toNatClampNeg = nI (saf S i) := by rw [xz_nI (by omega)]; exact q3
    have r6 : xi h (Y + 6) (nI i).toNatClampNeg = nI (sao S i) := by rw [xz_nI (by omega)]; exact q4
    have u5 : FX9_has E s (xi h (Y + 5) (nI i).toNatClampNeg) h = xv (bI (mb s (saf S i))) h := by rw [r5]; exact FX9_has_v s (show saf S i < 32 by omega)
    have u6 : FX9_has E s (xi h (Y + 6) (nI i).toNatClampNeg) h = xv (bI (mb s (sao S i))) h := by rw [r6]; exact FX9_has_v s (show sao S i < 32 by omega)
    rw [ow_step S b s 0 i]
    cases c1 : mb b i
    · simp (disch := omega) only [↓xg, ↓reduceIte, ↓xjn_d, ↓xlt_d, eq_self, and_self, and_true, true_and, not_true, not_false_iff, ne_eq, true_or, or_true, or_false, false_or, nI_s, nI_leP, nI_eqP, y.1, M.2.1.2.2, hc, ↓xb_eq (FX9_has_v b (show i < 32 by omega)), c1, bI_eq0, Bool.false_and, Bool.false_eq_true]
    · cases c2 : mb s (saf S i)
      · cases c3 : mb s (sao S i)
        · simp (disch := omega) only [↓xg, ↓reduceIte, ↓xjn_d, ↓xlt_d, eq_self, and_self, and_true, true_and, not_true, not_false_iff, ne_eq, true_or, or_true, or_false, false_or, nI_s, nI_leP, nI_eqP, y.1, M.2.1.2.2, hc, ↓xb_eq (FX9_has_v b (show i < 32 by omega)), c1, bI_eq0, ↓xnn_e (y.r5), ↓xnn_e (y.r6), y.k5, y.k6, y.n5, y.n6, xin_t, r5, r6, ↓xb_eq (u5), ↓xb_eq (u6), c2, c3, Bool.true_and, Bool.or_false, Bool.false_eq_true, reduceCtorEq]
        · simp (disch := omega) only [↓xg, ↓reduceIte, ↓xjn_d, ↓xlt_d, eq_self, and_self, and_true, true_and, not_true, not_false_iff, ne_eq, true_or, or_true, or_false, false_or, nI_s, nI_leP, nI_eqP, y.1, M.2.1.2.2, hc, ↓xb_eq (FX9_has_v b (show i < 32 by omega)), c1, bI_eq0, ↓xnn_e (y.r5), ↓xnn_e (y.r6), y.k5, y.k6, y.n5, y.n6, xin_t, r5, r6, ↓xb_eq (u5), ↓xb_eq (u6), c2, c3, Bool.true_and, Bool.or_true, Bool.false_eq_true, reduceCtorEq, sh_d, xlt_d]
      · simp (disch := omega) only [↓xg, ↓reduceIte, ↓xjn_d, ↓xlt_d, eq_self, and_self, and_true, true_and, not_true, not_false_iff, ne_eq, true_or, or_true, or_false, false_or, nI_s, nI_leP, nI_eqP, y.1, M.2.1.2.2, hc, ↓xb_eq (FX9_has_v b (show i < 32 by omega)), c1, bI_eq0, ↓xnn_e (y.r5), ↓xnn_e (y.r6), y.k5, y.k6, y.n5, y.n6, xin_t, r5, r6, ↓xb_eq (u5), c2, Bool.true_and, Bool.true_or, Bool.false_eq_true, reduceCtorEq, sh_d, xlt_d]
  · simp (disch := omega) only [↓xg, ↓reduceIte, ↓xjn_d, ↓xlt_d, eq_self, and_self, and_true, true_and, not_true, not_false_iff, ne_eq, true_or, or_true, or_false, false_or, nI_s, nI_leP, nI_eqP, y.1, M.2.1.2.2, Int32.le_refl]
    rfl
theorem FX9_lawfulNow_v (M : MI h Y S T) : FX9_lawfulNow E Y h = xv (lawS S T) h := by
  have h6 := M.1.1.1.2.1
  have y := M.y
  unfold FX9_lawfulNow
  refine xlp_all (fun i => (orI (fun m => if whS S T m = 0 then sh m else 0) i, nI i)) (fun _ => h) (snm S) (by omega) (fun i hi ag => ?_) (fun ag => ?_)
  · have hc : ¬ snm S ≤ i := by omega
    have q := whyS_le (mdS S T i)
    have e : whyS (mdS S T i) = whS S T i := rfl
    rw [e] at q
    simp (disch := omega) only [↓xg, ↓reduceIte, ↓xjn_d, ↓xlt_d, eq_self, and_self, and_true, true_and, not_true, not_false_iff, ne_eq, true_or, or_true, or_false, false_or, nI_s, nI_leP, nI_eqP, y.1, M.2.1.2.1, hc, ↓xb_eq (FX9_whyOf_v (M.ym hi) (M.gd hi)), e, nI_eq0, orI_s, sh_d, xlt_d]
    split <;> rfl
  · simp (disch := omega) only [↓xg, ↓reduceIte, ↓xjn_d, ↓xlt_d, eq_self, and_self, and_true, true_and, not_true, not_false_iff, ne_eq, true_or, or_true, or_false, false_or, nI_s, nI_leP, nI_eqP, y.1, M.2.1.2.1, Int32.le_refl]
    rfl
theorem FX9_firstLike_o (M : MI h Y S T) {m : Nat} (hm : m < snm S) (h0 : whS S T m = 0) : xo (FX9_firstLike E Y (nI m) h) (fun r h' => r = nI (flS S T m) ∧ iw (rCl Y) h h') := by
  have ap : ∀ a, rCl Y a → a < Y ∨ Y + 8 < a := fun a q => by unfold rCl at q; omega
  have h6 := M.1.1.1.2.1
  have hf := fi_le m (fun o => decide (whS S T o = 0) && alS (mdS S T o) (mdS S T m))
  have Lm := LW_of (M.wd hm) (M.gd hm) h0
  unfold FX9_firstLike
  refine xlp_inv (Po := fun m => xo m _) (fun i s h' => s = nI i ∧ iw (rCl Y) h h') (flS S T m) (by unfold flS; omega) (fun i s h' ag hi I again => ?_) ⟨rfl, iw.refl _ _⟩
  obtain ⟨rfl, iW⟩ := I
  have M2 := M.iw iW ap
  have him : i < snm S := by unfold flS at hi; omega
  have q := whyS_le (mdS S T i)
  refine xo_g M2.y.1 (xo_eb (FX9_whyOf_v (M2.ym him) (M.gd him)) (xo_jn ?_))
  by_cases c1 : whyS (mdS S T i) = 0
  · have Li := LW_of (M.wd him) (M.gd him) c1
    refine xo_t (by rw [c1]; rfl) (xo_g M2.y.1 (xo_b (FX9_alike_o (M2.ym him) (M2.ym hm) Li Lm) (fun v h3 q3 => ?_)))
    obtain ⟨rfl, i3⟩ := q3
    have i3 : iw (rCl Y) h h3 := iW.trans i3 (fun _ q => q) (fun _ q => q)
    cases c2 : alS (mdS S T i) (mdS S T m)
    · have hlt : i < flS S T m := by
        rcases Nat.lt_or_ge i (flS S T m) with z | z
        · exact z
        · exfalso
          have e : i = flS S T m := by omega
          by_cases z2 : flS S T m < m
          · have := fi_yes z2
            rw [Bool.and_eq_true] at this
            rw [← show i = fi m (fun o => decide (whS S T o = 0) && alS (mdS S T o) (mdS S T m)) from e] at this
            rw [c2] at this
            cases this.2
          · have e2 : i = m := by unfold flS at e z2; omega
            rw [e2, alS_refl] at c2
            cases c2
      refine xo_t rfl ?_
      rw [nI_s]
      exact again hlt _ _ ⟨rfl, i3⟩
    · refine xo_f (by decide) (xo_v ⟨?_, i3⟩)
      rcases Nat.lt_or_ge i (flS S T m) with z | z
      · have := fi_not z
        rw [c2, Bool.and_true] at this
        have c1' : whS S T i = 0 := c1
        rw [c1'] at this
        cases this
      · rw [show i = flS S T m by omega]
  · have hlt : i < flS S T m := by
      rcases Nat.lt_or_ge i (flS S T m) with z | z
      · exact z
      · exfalso
        have e : i = flS S T m := by omega
        by_cases z2 : flS S T m < m
        · have := fi_yes z2
          rw [Bool.and_eq_true, decide_eq_true_eq] at this
          rw [← show i = fi m (fun o => decide (whS S T o = 0) && alS (mdS S T o) (mdS S T m)) from e] at this
          exact c1 this.1
        · have e2 : i = m := by unfold flS at e z2; omega
          rw [e2] at c1
          exact c1 h0
    refine xo_f (by rw [nI_eq0 (by omega)]; exact c1) ?_
    rw [nI_s]
    exact again hlt _ _ ⟨rfl, iW⟩
end MIS
