/-! The class's modules: what is read of them. -/
set_option linter.unusedVariables false
/-- a module as numbers: upper group (size, products, inverses), lower group, boundary, action -/
abbrev MD : Type := Nat × (Nat → Nat → Nat) × (Nat → Nat) × Nat × (Nat → Nat → Nat) × (Nat → Nat) × (Nat → Nat) × (Nat → Nat → Nat)
def dnu (d : MD) : Nat := d.1
def dtu (d : MD) : Nat → Nat → Nat := d.2.1
def dvu (d : MD) : Nat → Nat := d.2.2.1
def dnl (d : MD) : Nat := d.2.2.2.1
def dtl (d : MD) : Nat → Nat → Nat := d.2.2.2.2.1
def dvl (d : MD) : Nat → Nat := d.2.2.2.2.2.1
def dbd (d : MD) : Nat → Nat := d.2.2.2.2.2.2.1
def dac (d : MD) : Nat → Nat → Nat := d.2.2.2.2.2.2.2
/-- every number is in its range -/
def Wd (d : MD) : Prop := (0 < dnu d ∧ dnu d ≤ 8 ∧ 0 < dnl d ∧ dnl d ≤ 8) ∧ (∀ a b, a < dnu d → b < dnu d → dtu d a b < dnu d) ∧ (∀ a, a < dnu d → dvu d a < dnu d) ∧ (∀ a b, a < dnl d → b < dnl d → dtl d a b < dnl d) ∧ (∀ a, a < dnl d → dvl d a < dnl d) ∧ (∀ a, a < dnu d → dbd d a < dnl d) ∧ ∀ g a, g < dnl d → a < dnu d → dac d g a < dnu d
def PL (h : XH) (P : Nat) : Prop := xk h P = 5 ∧ (xr h P 0 = some (P + 1) ∧ xk h (P + 1) = 12 ∧ xn h (P + 1) = 8) ∧ (xr h P 1 = some (P + 2) ∧ xk h (P + 2) = 12 ∧ xn h (P + 2) = 8) ∧ (xr h P 2 = some (P + 3) ∧ xk h (P + 3) = 12 ∧ xn h (P + 3) = 9) ∧ (xr h P 3 = some (P + 4) ∧ xk h (P + 4) = 12 ∧ xn h (P + 4) = 9)
def ML (h : XH) (C : Nat) : Prop := xk h C = 2 ∧ (xr h C 3 = some (C + 1) ∧ xk h (C + 1) = 12 ∧ xn h (C + 1) = 8) ∧ (xr h C 4 = some (C + 2) ∧ xk h (C + 2) = 12 ∧ xn h (C + 2) = 64) ∧ xr h C 5 = some (C + 3) ∧ PL h (C + 3)
/-- the module at C, its groups at U and L, is d -/
def CM (h : XH) (C U L : Nat) (d : MD) : Prop := ML h C ∧ (xr h C 1 = some U ∧ xr h C 2 = some L) ∧ (GL h U ∧ GT h U (dnu d) (dtu d) ∧ GV h U (dnu d) (dvu d)) ∧ (GL h L ∧ GT h L (dnl d) (dtl d) ∧ GV h L (dnl d) (dvl d)) ∧ (∀ a, a < dnu d → xi h (C + 1) a = nI (dbd d a) ∧ dbd d a < dnl d) ∧ ∀ g a, g < dnl d → a < dnu d → xi h (C + 2) (8 * g + a) = nI (dac d g a) ∧ dac d g a < dnu d
def b1S (d : MD) : Bool := anyB (dnu d) fun h => anyB (dnu d) fun k => dbd d (dtu d h k) != dtl d (dbd d h) (dbd d k)
def b2S (d : MD) (g : Nat) : Bool := (anyB (dnu d) fun h => anyB h fun k => dac d g k == dac d g h) || anyB (dnu d) fun h => anyB (dnu d) fun k => dac d g (dtu d h k) != dtu d (dac d g h) (dac d g k)
def b3S (d : MD) : Bool := (anyB (dnu d) fun h => dac d 0 h != h) || anyB (dnl d) fun g => anyB (dnl d) fun k => anyB (dnu d) fun h => dac d (dtl d g k) h != dac d g (dac d k h)
def b4S (d : MD) : Bool := anyB (dnl d) fun g => anyB (dnu d) fun h => dbd d (dac d g h) != dtl d (dtl d g (dbd d h)) (dvl d g)
def b5S (d : MD) : Bool := anyB (dnu d) fun h => anyB (dnu d) fun k => dac d (dbd d h) k != dtu d (dtu d h k) (dvu d h)
/-- the first law that is broken -/
def whyS (d : MD) : Nat := if b1S d then 1 else if anyB (dnl d) (b2S d) then 2 else if b3S d then 3 else if b4S d then 4 else if b5S d then 5 else 0
def kerS (d : MD) : Int32 := orI (fun h => if dbd d h = 0 then sh h else 0) (dnu d)
def imgS (d : MD) : Int32 := orI (fun h => sh (dbd d h)) (dnu d)
def fixS (d : MD) (a : Nat) : Int32 := orI (fun g => if dac d g a = a then sh g else 0) (dnl d)
def orbS (d : MD) (a : Nat) : Int32 := orI (fun g => sh (dac d g a)) (dnl d)
/-- the large group -/
def lpS (d : MD) (x y : Nat) : Nat := dtu d (x / dnl d) (dac d (x % dnl d) (y / dnl d)) * dnl d + dtl d (x % dnl d) (y % dnl d)
def tgS (d : MD) (a g : Nat) : Nat := dtl d (dbd d a) g
def sumI (f : Nat → Int32) : Nat → Int32
  | 0 => 0
  | n + 1 => sumI f n + f n
theorem sumI_s (f : Nat → Int32) (n : Nat) : sumI f (n + 1) = sumI f n + f n := rfl
def btS (d : MD) (g f : Nat) : Int32 := sumI (fun a => if tgS d a g = f then 1 else 0) (dnu d)
def olS (d : MD) (x : Nat) : Nat := fi 63 (fun i => pw (lpS d) x i == 0) + 1
theorem bne_f {a b : Nat} (h : a = b) : (a != b) = false := by subst h; simp
theorem bne_t {a b : Nat} (h : ¬ a = b) : (a != b) = true := bne_iff_ne.mpr h
theorem ite_bne {α : Type} (a b : Nat) (x y : α) : (if (a != b) = true then x else y) = if a = b then y else x := by
  by_cases h : a = b
  · rw [if_pos h, bne_f h]; rfl
  · rw [if_neg h, bne_t h]; rfl
theorem rem_nI {x y : Nat} (hx : x < 2 ^ 31) (h0 : 0 < y) (hy : y < 2 ^ 31) : xrem (nI x) (nI y) = nI (x % y) := pk_rem hx h0 hy
theorem div_nI {x y : Nat} (hx : x < 2 ^ 31) (h0 : 0 < y) (hy : y < 2 ^ 31) : nI x / nI y = nI (x / y) := pk_div hx h0 hy
section MOD
variable {E : XG} {h : XH} {C U L : Nat} {d : MD}
theorem CM.wd (m : CM h C U L d) : Wd d := ⟨⟨m.2.2.1.2.1.2.1, m.2.2.1.2.1.2.2.1, m.2.2.2.1.2.1.2.1, m.2.2.2.1.2.1.2.2.1⟩, m.2.2.1.2.1.lt, m.2.2.1.2.2.lt, m.2.2.2.1.2.1.lt, m.2.2.2.1.2.2.lt, fun a ha => (m.2.2.2.2.1 a ha).2, fun g a hg ha => (m.2.2.2.2.2 g a hg ha).2⟩
theorem CM.k (m : CM h C U L d) : xk h C = 2 := m.1.1
theorem CM.u (m : CM h C U L d) : xr h C 1 = some U := m.2.1.1
theorem CM.l (m : CM h C U L d) : xr h C 2 = some L := m.2.1.2
theorem CM.uk (m : CM h C U L d) : xk h U = 3 := m.2.2.1.1.1
theorem CM.lk (m : CM h C U L d) : xk h L = 3 := m.2.2.2.1.1.1
theorem CM.un (m : CM h C U L d) : xi h U 3 = nI (dnu d) := m.2.2.1.2.1.1
theorem CM.ln (m : CM h C U L d) : xi h L 3 = nI (dnl d) := m.2.2.2.1.2.1.1
theorem CM.pu (m : CM h C U L d) {a b : Nat} (ha : a < dnu d) (hb : b < dnu d) : FX2_product E U (nI a) (nI b) h = xv (nI (dtu d a b)) h := FX2_product_v m.2.2.1.1 m.2.2.1.2.1 ha hb
theorem CM.pl (m : CM h C U L d) {a b : Nat} (ha : a < dnl d) (hb : b < dnl d) : FX2_product E L (nI a) (nI b) h = xv (nI (dtl d a b)) h := FX2_product_v m.2.2.2.1.1 m.2.2.2.1.2.1 ha hb
theorem CM.cu (m : CM h C U L d) {a b : Nat} (ha : a < dnu d) (hb : b < dnu d) : FX2_conjugateBy E U (nI a) (nI b) h = xv (nI (dtu d (dtu d a b) (dvu d a))) h := FX2_conjugateBy_v m.2.2.1.1 m.2.2.1.2.1 m.2.2.1.2.2 ha hb
theorem CM.cl (m : CM h C U L d) {a b : Nat} (ha : a < dnl d) (hb : b < dnl d) : FX2_conjugateBy E L (nI a) (nI b) h = xv (nI (dtl d (dtl d a b) (dvl d a))) h := FX2_conjugateBy_v m.2.2.2.1.1 m.2.2.2.1.2.1 m.2.2.2.1.2.2 ha hb
theorem CM.bd (m : CM h C U L d) {a : Nat} (ha : a < dnu d) : FX1_boundaryOf E C (nI a) h = xv (nI (dbd d a)) h := by
  obtain ⟨⟨w1, w2, w3, w4⟩, -⟩ := m.wd
  obtain ⟨l1, ⟨l2, l3, l4⟩, -⟩ := m.1
  have e := (m.2.2.2.2.1 a ha).1
  unfold FX1_boundaryOf
  simp (disch := omega) only [xg, xnn_s, xb_v, xb_x, xlt_d, xjn_d, if_true, if_false, eq_self, and_self, and_true, true_and, not_true, not_false_iff, ne_eq, true_or, or_true, or_false, false_or, l1, l2, FX8_at_in l3 l4 (show a < 8 by omega), e]
theorem CM.ac (m : CM h C U L d) {g a : Nat} (hg : g < dnl d) (ha : a < dnu d) : FX1_actionOf E C (nI g) (nI a) h = xv (nI (dac d g a)) h := by
  obtain ⟨⟨w1, w2, w3, w4⟩, -⟩ := m.wd
  obtain ⟨l1, -, ⟨l2, l3, l4⟩, -⟩ := m.1
  have e := (m.2.2.2.2.2 g a hg ha).1
  unfold FX1_actionOf
  simp (disch := omega) only [xg, xnn_s, xb_v, xb_x, xlt_d, xjn_d, if_true, if_false, eq_self, and_self, and_true, true_and, not_true, not_false_iff, ne_eq, true_or, or_true, or_false, false_or, l1, l2, nI_8, FX8_at_in l3 l4 (show 8 * g + a < 64 by omega), e]
theorem FX1_bkp (m : CM h C U L d) : FX1_boundaryKeepsProducts E C h = xv (bI (!b1S d)) h := by
  obtain ⟨⟨w1, w2, w3, w4⟩, w5, w6, w7, w8, w9, w10⟩ := m.wd
  unfold FX1_boundaryKeepsProducts
  refine (xlp_any (fun i => nI i) h (dnu d) (fun i => anyB (dnu d) fun k => dbd d (dtu d i k) != dtl d (dbd d i) (dbd d k)) (R1 := xv 0 h) (R2 := xv 1 h) (by omega) (fun i hi ag => ?_) (fun ag => ?_)).trans ?_
  · have hc : ¬ dnu d ≤ i := by omega
    (try dsimp only); (rw [xg_t (m.k), xnn_e (m.u), xg_t (m.uk), m.un, if_neg (nI_ge hi (by omega))])
    refine xlp_any (fun i => nI i) h (dnu d) (fun k => dbd d (dtu d i k) != dtl d (dbd d i) (dbd d k)) (by omega) (fun k hk ag' => ?_) (fun ag' => ?_)
    · have hc2 : ¬ dnu d ≤ k := by omega
      have q1 := w5 i k hi hk
      have q2 := w9 _ q1
      have q3 := w9 i hi
      have q4 := w9 k hk
      have q5 := w7 _ _ q3 q4
      simp (disch := omega) only [↓xg, ↓reduceIte, ↓xjn_d, ↓xlt_d, eq_self, and_self, and_true, true_and, not_true, not_false_iff, ne_eq, true_or, or_true, or_false, false_or, nI_s, nI_leP, nI_eqP, m.k, ↓xnn_e (m.u), ↓xnn_e (m.l), m.uk, m.lk, m.un, hc2, ↓xb_eq (m.pu hi hk), ↓xb_eq (m.bd q1), ↓xb_eq (m.bd hi), ↓xb_eq (m.bd hk), ↓xb_eq (m.pl q3 q4), ite_bne]
    · simp (disch := omega) only [↓xg, ↓reduceIte, ↓xjn_d, ↓xlt_d, eq_self, and_self, and_true, true_and, not_true, not_false_iff, ne_eq, true_or, or_true, or_false, false_or, nI_s, nI_leP, nI_eqP, m.k, ↓xnn_e (m.u), m.uk, m.un, Int32.le_refl]
  · simp (disch := omega) only [↓xg, ↓reduceIte, ↓xjn_d, ↓xlt_d, eq_self, and_self, and_true, true_and, not_true, not_false_iff, ne_eq, true_or, or_true, or_false, false_or, nI_s, nI_leP, nI_eqP, m.k, ↓xnn_e (m.u), m.uk, m.un, Int32.le_refl]
  · unfold b1S; cases anyB (dnu d) _ <;> rfl
theorem FX1_ia (m : CM h C U L d) {g : Nat} (hg : g < dnl d) : FX1_isAutomorphism E C (nI g) h = xv (bI (!b2S d g)) h := by
  obtain ⟨⟨w1, w2, w3, w4⟩, w5, w6, w7, w8, w9, w10⟩ := m.wd
  unfold FX1_isAutomorphism
  refine (xlp_any (fun i => (orI (fun k => sh (dac d g k)) i, nI i)) h (dnu d) (fun i => anyB i fun k => dac d g k == dac d g i) (R1 := xv 0 h) (R2 := if (anyB (dnu d) fun h => anyB (dnu d) fun k => dac d g (dtu d h k) != dtu d (dac d g h) (dac d g k)) then xv 0 h else xv 1 h) (by omega) (fun i hi ag => ?_) (fun ag => ?_)).trans ?_
  · have hc : ¬ dnu d ≤ i := by omega
    have q := w10 g i hg hi
    have e : mb (orI (fun k => sh (dac d g k)) i) (dac d g i) = anyB i fun k => dac d g k == dac d g i := by
      rw [mb_orI]
      refine anyB_congr fun k hk => ?_
      have := w10 g k hg (by omega)
      rw [mb_sh (by omega)]
      by_cases e : dac d g i = dac d g k
      · simp [e]
      · have e2 : ¬ dac d g k = dac d g i := fun q => e q.symm
        simp [e, e2]
    simp (disch := omega) only [↓xg, ↓reduceIte, ↓xjn_d, ↓xlt_d, eq_self, and_self, and_true, true_and, not_true, not_false_iff, ne_eq, true_or, or_true, or_false, false_or, nI_s, nI_leP, nI_eqP, m.k, ↓xnn_e (m.u), m.uk, m.un, hc, ↓xb_eq (m.ac hg hi), ↓xb_eq (FX8_isIn_v _ (show dac d g i < 32 by omega)), e, bI_eq0, sh_d, orI_s]
    cases anyB i fun k => dac d g k == dac d g i
    · simp (disch := omega) only [↓xg, ↓reduceIte, ↓xjn_d, ↓xlt_d, eq_self, and_self, and_true, true_and, not_true, not_false_iff, ne_eq, true_or, or_true, or_false, false_or, nI_s, nI_leP, nI_eqP, Bool.false_eq_true]
    · simp (disch := omega) only [↓xg, ↓reduceIte, ↓xjn_d, ↓xlt_d, eq_self, and_self, and_true, true_and, not_true, not_false_iff, ne_eq, true_or, or_true, or_false, false_or, nI_s, nI_leP, nI_eqP, reduceCtorEq]
  · (try dsimp only); (rw [xg_t (m.k), xnn_e (m.u), xg_t (m.uk), m.un, if_pos (Int32.le_refl _)])
    refine (xlp_any (fun i => nI i) h (dnu d) (fun i => anyB (dnu d) fun k => dac d g (dtu d i k) != dtu d (dac d g i) (dac d g k)) (R1 := xv 0 h) (R2 := xv 1 h) (by omega) (fun i hi ag => ?_) (fun ag => ?_))
    · have hc : ¬ dnu d ≤ i := by omega
      (try dsimp only); (rw [xg_t (m.k), xnn_e (m.u), xg_t (m.uk), m.un, if_neg (nI_ge hi (by omega))])
      refine xlp_any (fun i => nI i) h (dnu d) (fun k => dac d g (dtu d i k) != dtu d (dac d g i) (dac d g k)) (by omega) (fun k hk ag' => ?_) (fun ag' => ?_)
      · have hc2 : ¬ dnu d ≤ k := by omega
        have q1 := w5 i k hi hk
        have q2 := w10 g _ hg q1
        have q3 := w10 g i hg hi
        have q4 := w10 g k hg hk
        have q5 := w5 _ _ q3 q4
        simp (disch := omega) only [↓xg, ↓reduceIte, ↓xjn_d, ↓xlt_d, eq_self, and_self, and_true, true_and, not_true, not_false_iff, ne_eq, true_or, or_true, or_false, false_or, nI_s, nI_leP, nI_eqP, m.k, ↓xnn_e (m.u), ↓xnn_e (m.l), m.uk, m.lk, m.un, hc2, ↓xb_eq (m.pu hi hk), ↓xb_eq (m.ac hg q1), ↓xb_eq (m.ac hg hi), ↓xb_eq (m.ac hg hk), ↓xb_eq (m.pu q3 q4), ite_bne]
      · simp (disch := omega) only [↓xg, ↓reduceIte, ↓xjn_d, ↓xlt_d, eq_self, and_self, and_true, true_and, not_true, not_false_iff, ne_eq, true_or, or_true, or_false, false_or, nI_s, nI_leP, nI_eqP, m.k, ↓xnn_e (m.u), m.uk, m.un, Int32.le_refl]
    · simp (disch := omega) only [↓xg, ↓reduceIte, ↓xjn_d, ↓xlt_d, eq_self, and_self, and_true, true_and, not_true, not_false_iff, ne_eq, true_or, or_true, or_false, false_or, nI_s, nI_leP, nI_eqP, m.k, ↓xnn_e (m.u), m.uk, m.un, Int32.le_refl]
  · unfold b2S
    cases (anyB (dnu d) fun h => anyB h fun k => dac d g k == dac d g h)
    · cases (anyB (dnu d) fun h => anyB (dnu d) fun k => dac d g (dtu d h k) != dtu d (dac d g h) (dac d g k)) <;> rfl
    · rfl
theorem FX1_akp (m : CM h C U L d) : FX1_actionKeepsProducts E C h = xv (bI (!b3S d)) h := by
  obtain ⟨⟨w1, w2, w3, w4⟩, w5, w6, w7, w8, w9, w10⟩ := m.wd
  unfold FX1_actionKeepsProducts
  refine (xlp_any (fun i => nI i) h (dnu d) (fun i => dac d 0 i != i) (R1 := xv 0 h) (R2 := if (anyB (dnl d) fun g => anyB (dnl d) fun k => anyB (dnu d) fun h => dac d (dtl d g k) h != dac d g (dac d k h)) then xv 0 h else xv 1 h) (by omega) (fun i hi ag => ?_) (fun ag => ?_)).trans ?_
  · have hc : ¬ dnu d ≤ i := by omega
    have q := w10 0 i w3 hi
    have e0 := m.ac (E := E) w3 hi
    rw [nI_0] at e0
    simp (disch := omega) only [↓xg, ↓reduceIte, ↓xjn_d, ↓xlt_d, eq_self, and_self, and_true, true_and, not_true, not_false_iff, ne_eq, true_or, or_true, or_false, false_or, nI_s, nI_leP, nI_eqP, m.k, ↓xnn_e (m.u), m.uk, m.un, hc, ↓xb_eq (e0), ite_bne]
  · (try dsimp only); (rw [xg_t (m.k), xnn_e (m.u), xg_t (m.uk), m.un, if_pos (Int32.le_refl _)])
    refine (xlp_any (fun i => nI i) h (dnl d) (fun g => anyB (dnl d) fun k => anyB (dnu d) fun h => dac d (dtl d g k) h != dac d g (dac d k h)) (R1 := xv 0 h) (R2 := xv 1 h) (by omega) (fun g hg ag => ?_) (fun ag => ?_))
    · have hc : ¬ dnl d ≤ g := by omega
      (try dsimp only); (rw [xg_t (m.k), xnn_e (m.l), xg_t (m.lk), m.ln, if_neg (nI_ge hg (by omega))])
      refine xlp_any (fun i => nI i) h (dnl d) (fun k => anyB (dnu d) fun h => dac d (dtl d g k) h != dac d g (dac d k h)) (by omega) (fun k hk ag' => ?_) (fun ag' => ?_)
      · have hc2 : ¬ dnl d ≤ k := by omega
        (try dsimp only); (rw [xg_t (m.k), xnn_e (m.l), xg_t (m.lk), m.ln, if_neg (nI_ge hk (by omega))])
        refine xlp_any (fun i => nI i) h (dnu d) (fun a => dac d (dtl d g k) a != dac d g (dac d k a)) (by omega) (fun a ha ag2 => ?_) (fun ag2 => ?_)
        · have hc3 : ¬ dnu d ≤ a := by omega
          have q1 := w7 g k hg hk
          have q2 := w10 _ a q1 ha
          have q3 := w10 k a hk ha
          have q4 := w10 g _ hg q3
          simp (disch := omega) only [↓xg, ↓reduceIte, ↓xjn_d, ↓xlt_d, eq_self, and_self, and_true, true_and, not_true, not_false_iff, ne_eq, true_or, or_true, or_false, false_or, nI_s, nI_leP, nI_eqP, m.k, ↓xnn_e (m.u), ↓xnn_e (m.l), m.uk, m.lk, m.un, hc3, ↓xb_eq (m.pl hg hk), ↓xb_eq (m.ac q1 ha), ↓xb_eq (m.ac hk ha), ↓xb_eq (m.ac hg q3), ite_bne]
        · simp (disch := omega) only [↓xg, ↓reduceIte, ↓xjn_d, ↓xlt_d, eq_self, and_self, and_true, true_and, not_true, not_false_iff, ne_eq, true_or, or_true, or_false, false_or, nI_s, nI_leP, nI_eqP, m.k, ↓xnn_e (m.u), m.uk, m.un, Int32.le_refl]
      · simp (disch := omega) only [↓xg, ↓reduceIte, ↓xjn_d, ↓xlt_d, eq_self, and_self, and_true, true_and, not_true, not_false_iff, ne_eq, true_or, or_true, or_false, false_or, nI_s, nI_leP, nI_eqP, m.k, ↓xnn_e (m.l), m.lk, m.ln, Int32.le_refl]
    · simp (disch := omega) only [↓xg, ↓reduceIte, ↓xjn_d, ↓xlt_d, eq_self, and_self, and_true, true_and, not_true, not_false_iff, ne_eq, true_or, or_true, or_false, false_or, nI_s, nI_leP, nI_eqP, m.k, ↓xnn_e (m.l), m.lk, m.ln, Int32.le_refl]
  · unfold b3S
    cases (anyB (dnu d) fun h => dac d 0 h != h)
    · cases (anyB (dnl d) fun g => anyB (dnl d) fun k => anyB (dnu d) fun h => dac d (dtl d g k) h != dac d g (dac d k h)) <;> rfl
    · rfl
theorem FX1_bfa (m : CM h C U L d) : FX1_boundaryFollowsAction E C h = xv (bI (!b4S d)) h := by
  obtain ⟨⟨w1, w2, w3, w4⟩, w5, w6, w7, w8, w9, w10⟩ := m.wd
  unfold FX1_boundaryFollowsAction
  refine (xlp_any (fun i => nI i) h (dnl d) (fun g => anyB (dnu d) fun a => dbd d (dac d g a) != dtl d (dtl d g (dbd d a)) (dvl d g)) (R1 := xv 0 h) (R2 := xv 1 h) (by omega) (fun g hg ag => ?_) (fun ag => ?_)).trans ?_
  · have hc : ¬ dnl d ≤ g := by omega
    (try dsimp only); (rw [xg_t (m.k), xnn_e (m.l), xg_t (m.lk), m.ln, if_neg (nI_ge hg (by omega))])
    refine xlp_any (fun i => nI i) h (dnu d) (fun a => dbd d (dac d g a) != dtl d (dtl d g (dbd d a)) (dvl d g)) (by omega) (fun a ha ag' => ?_) (fun ag' => ?_)
    · have hc2 : ¬ dnu d ≤ a := by omega
      have q1 := w10 g a hg ha
      have q2 := w9 _ q1
      have q3 := w9 a ha
      have q5 := w7 _ _ (w7 g _ hg q3) (w8 g hg)
      simp (disch := omega) only [↓xg, ↓reduceIte, ↓xjn_d, ↓xlt_d, eq_self, and_self, and_true, true_and, not_true, not_false_iff, ne_eq, true_or, or_true, or_false, false_or, nI_s, nI_leP, nI_eqP, m.k, ↓xnn_e (m.u), ↓xnn_e (m.l), m.uk, m.lk, m.un, hc2, ↓xb_eq (m.ac hg ha), ↓xb_eq (m.bd q1), ↓xb_eq (m.bd ha), ↓xb_eq (m.cl hg q3), ite_bne]
    · simp (disch := omega) only [↓xg, ↓reduceIte, ↓xjn_d, ↓xlt_d, eq_self, and_self, and_true, true_and, not_true, not_false_iff, ne_eq, true_or, or_true, or_false, false_or, nI_s, nI_leP, nI_eqP, m.k, ↓xnn_e (m.u), m.uk, m.un, Int32.le_refl]
  · simp (disch := omega) only [↓xg, ↓reduceIte, ↓xjn_d, ↓xlt_d, eq_self, and_self, and_true, true_and, not_true, not_false_iff, ne_eq, true_or, or_true, or_false, false_or, nI_s, nI_leP, nI_eqP, m.k, ↓xnn_e (m.l), m.lk, m.ln, Int32.le_refl]
  · unfold b4S; cases anyB (dnl d) _ <;> rfl
theorem FX1_bac (m : CM h C U L d) : FX1_boundaryActsAsConjugation E C h = xv (bI (!b5S d)) h := by
  obtain ⟨⟨w1, w2, w3, w4⟩, w5, w6, w7, w8, w9, w10⟩ := m.wd
  unfold FX1_boundaryActsAsConjugation
  refine (xlp_any (fun i => nI i) h (dnu d) (fun a => anyB (dnu d) fun k => dac d (dbd d a) k != dtu d (dtu d a k) (dvu d a)) (R1 := xv 0 h) (R2 := xv 1 h) (by omega) (fun a ha ag => ?_) (fun ag => ?_)).trans ?_
  · have hc : ¬ dnu d ≤ a := by omega
    (try dsimp only); (rw [xg_t (m.k), xnn_e (m.u), xg_t (m.uk), m.un, if_neg (nI_ge ha (by omega))])
    refine xlp_any (fun i => nI i) h (dnu d) (fun k => dac d (dbd d a) k != dtu d (dtu d a k) (dvu d a)) (by omega) (fun k hk ag' => ?_) (fun ag' => ?_)
    · have hc2 : ¬ dnu d ≤ k := by omega
      have q1 := w9 a ha
      have q2 := w10 _ k q1 hk
      have q5 := w5 _ _ (w5 a k ha hk) (w6 a ha)
      simp (disch := omega) only [↓xg, ↓reduceIte, ↓xjn_d, ↓xlt_d, eq_self, and_self, and_true, true_and, not_true, not_false_iff, ne_eq, true_or, or_true, or_false, false_or, nI_s, nI_leP, nI_eqP, m.k, ↓xnn_e (m.u), ↓xnn_e (m.l), m.uk, m.lk, m.un, hc2, ↓xb_eq (m.bd ha), ↓xb_eq (m.ac q1 hk), ↓xb_eq (m.cu ha hk), ite_bne]
    · simp (disch := omega) only [↓xg, ↓reduceIte, ↓xjn_d, ↓xlt_d, eq_self, and_self, and_true, true_and, not_true, not_false_iff, ne_eq, true_or, or_true, or_false, false_or, nI_s, nI_leP, nI_eqP, m.k, ↓xnn_e (m.u), m.uk, m.un, Int32.le_refl]
  · simp (disch := omega) only [↓xg, ↓reduceIte, ↓xjn_d, ↓xlt_d, eq_self, and_self, and_true, true_and, not_true, not_false_iff, ne_eq, true_or, or_true, or_false, false_or, nI_s, nI_leP, nI_eqP, m.k, ↓xnn_e (m.u), m.uk, m.un, Int32.le_refl]
  · unfold b5S; cases anyB (dnu d) _ <;> rfl
theorem FX1_firstReason_v (m : CM h C U L d) : FX1_firstReason E C h = xv (nI (whyS d)) h := by
  obtain ⟨⟨w1, w2, w3, w4⟩, w5, w6, w7, w8, w9, w10⟩ := m.wd
  unfold FX1_firstReason
  simp (disch := omega) only [↓xg, ↓reduceIte, ↓xjn_d, ↓xlt_d, eq_self, and_self, and_true, true_and, not_true, not_false_iff, ne_eq, true_or, or_true, or_false, false_or, nI_s, nI_leP, nI_eqP, m.k, ↓xb_eq (FX1_bkp m), bI_eq0, Bool.not_eq_eq_eq_not, Bool.not_false]
  cases hb1 : b1S d
  · simp (disch := omega) only [↓xg, ↓reduceIte, ↓xjn_d, ↓xlt_d, eq_self, and_self, and_true, true_and, not_true, not_false_iff, ne_eq, true_or, or_true, or_false, false_or, nI_s, nI_leP, nI_eqP, Bool.false_eq_true]
    refine (xlp_any (fun i => nI i) h (dnl d) (b2S d) (R1 := xv 2 h) (R2 := xv (nI (if b3S d then 3 else if b4S d then 4 else if b5S d then 5 else 0)) h) (by omega) (fun g hg ag => ?_) (fun ag => ?_)).trans ?_
    · have hc : ¬ dnl d ≤ g := by omega
      simp (disch := omega) only [↓xg, ↓reduceIte, ↓xjn_d, ↓xlt_d, eq_self, and_self, and_true, true_and, not_true, not_false_iff, ne_eq, true_or, or_true, or_false, false_or, nI_s, nI_leP, nI_eqP, m.k, ↓xnn_e (m.l), m.lk, m.ln, hc, ↓xb_eq (FX1_ia m hg), bI_eq0, Bool.not_eq_eq_eq_not, Bool.not_false]
    · simp (disch := omega) only [↓xg, ↓reduceIte, ↓xjn_d, ↓xlt_d, eq_self, and_self, and_true, true_and, not_true, not_false_iff, ne_eq, true_or, or_true, or_false, false_or, nI_s, nI_leP, nI_eqP, m.k, ↓xnn_e (m.l), m.lk, m.ln, Int32.le_refl, ↓xb_eq (FX1_akp m), ↓xb_eq (FX1_bfa m), ↓xb_eq (FX1_bac m), bI_eq0, Bool.not_eq_eq_eq_not, Bool.not_false]
      cases b3S d
      · cases b4S d
        · cases b5S d <;> rfl
        · rfl
      · rfl
    · unfold whyS; rw [hb1]
      cases anyB (dnl d) (b2S d) <;> rfl
  · unfold whyS; rw [hb1]; rfl
theorem FX1_kernelSet_v (m : CM h C U L d) : FX1_kernelSet E C h = xv (kerS d) h := by
  obtain ⟨⟨w1, w2, w3, w4⟩, w5, w6, w7, w8, w9, w10⟩ := m.wd
  unfold FX1_kernelSet
  refine xlp_all (fun i => (orI (fun a => if dbd d a = 0 then sh a else 0) i, nI i)) (fun _ => h) (dnu d) (by omega) (fun a ha ag => ?_) (fun ag => ?_)
  · have hc : ¬ dnu d ≤ a := by omega
    have q := w9 a ha
    simp (disch := omega) only [↓xg, ↓reduceIte, ↓xjn_d, ↓xlt_d, eq_self, and_self, and_true, true_and, not_true, not_false_iff, ne_eq, true_or, or_true, or_false, false_or, nI_s, nI_leP, nI_eqP, m.k, ↓xnn_e (m.u), m.uk, m.un, hc, ↓xb_eq (m.bd ha), nI_eq0, sh_d, orI_s]
    split <;> rfl
  · simp (disch := omega) only [↓xg, ↓reduceIte, ↓xjn_d, ↓xlt_d, eq_self, and_self, and_true, true_and, not_true, not_false_iff, ne_eq, true_or, or_true, or_false, false_or, nI_s, nI_leP, nI_eqP, m.k, ↓xnn_e (m.u), m.uk, m.un, Int32.le_refl]
    rfl
theorem FX1_imageSet_v (m : CM h C U L d) : FX1_imageSet E C h = xv (imgS d) h := by
  obtain ⟨⟨w1, w2, w3, w4⟩, w5, w6, w7, w8, w9, w10⟩ := m.wd
  unfold FX1_imageSet
  refine xlp_all (fun i => (orI (fun a => sh (dbd d a)) i, nI i)) (fun _ => h) (dnu d) (by omega) (fun a ha ag => ?_) (fun ag => ?_)
  · have hc : ¬ dnu d ≤ a := by omega
    simp (disch := omega) only [↓xg, ↓reduceIte, ↓xjn_d, ↓xlt_d, eq_self, and_self, and_true, true_and, not_true, not_false_iff, ne_eq, true_or, or_true, or_false, false_or, nI_s, nI_leP, nI_eqP, m.k, ↓xnn_e (m.u), m.uk, m.un, hc, ↓xb_eq (m.bd ha), sh_d, orI_s]
  · simp (disch := omega) only [↓xg, ↓reduceIte, ↓xjn_d, ↓xlt_d, eq_self, and_self, and_true, true_and, not_true, not_false_iff, ne_eq, true_or, or_true, or_false, false_or, nI_s, nI_leP, nI_eqP, m.k, ↓xnn_e (m.u), m.uk, m.un, Int32.le_refl]
    rfl
theorem FX1_stabilizer_v (m : CM h C U L d) {a : Nat} (ha : a < dnu d) : FX1_stabilizer E C (nI a) h = xv (fixS d a) h := by
  obtain ⟨⟨w1, w2, w3, w4⟩, w5, w6, w7, w8, w9, w10⟩ := m.wd
  unfold FX1_stabilizer
  refine xlp_all (fun i => (orI (fun g => if dac d g a = a then sh g else 0) i, nI i)) (fun _ => h) (dnl d) (by omega) (fun g hg ag => ?_) (fun ag => ?_)
  · have hc : ¬ dnl d ≤ g := by omega
    have q := w10 g a hg ha
    simp (disch := omega) only [↓xg, ↓reduceIte, ↓xjn_d, ↓xlt_d, eq_self, and_self, and_true, true_and, not_true, not_false_iff, ne_eq, true_or, or_true, or_false, false_or, nI_s, nI_leP, nI_eqP, m.k, ↓xnn_e (m.l), m.lk, m.ln, hc, ↓xb_eq (m.ac hg ha), sh_d, orI_s]
    split <;> rfl
  · simp (disch := omega) only [↓xg, ↓reduceIte, ↓xjn_d, ↓xlt_d, eq_self, and_self, and_true, true_and, not_true, not_false_iff, ne_eq, true_or, or_true, or_false, false_or, nI_s, nI_leP, nI_eqP, m.k, ↓xnn_e (m.l), m.lk, m.ln, Int32.le_refl]
    rfl
theorem FX1_orbitSet_v (m : CM h C U L d) {a : Nat} (ha : a < dnu d) : FX1_orbitSet E C (nI a) h = xv (orbS d a) h := by
  obtain ⟨⟨w1, w2, w3, w4⟩, w5, w6, w7, w8, w9, w10⟩ := m.wd
  unfold FX1_orbitSet
  refine xlp_all (fun i => (orI (fun g => sh (dac d g a)) i, nI i)) (fun _ => h) (dnl d) (by omega) (fun g hg ag => ?_) (fun ag => ?_)
  · have hc : ¬ dnl d ≤ g := by omega
    simp (disch := omega) only [↓xg, ↓reduceIte, ↓xjn_d, ↓xlt_d, eq_self, and_self, and_true, true_and, not_true, not_false_iff, ne_eq, true_or, or_true, or_false, false_or, nI_s, nI_leP, nI_eqP, m.k, ↓xnn_e (m.l), m.lk, m.ln, hc, ↓xb_eq (m.ac hg ha), sh_d, orI_s]
  · simp (disch := omega) only [↓xg, ↓reduceIte, ↓xjn_d, ↓xlt_d, eq_self, and_self, and_true, true_and, not_true, not_false_iff, ne_eq, true_or, or_true, or_false, false_or, nI_s, nI_leP, nI_eqP, m.k, ↓xnn_e (m.l), m.lk, m.ln, Int32.le_refl]
    rfl
theorem FX1_targetOf_v (m : CM h C U L d) {a g : Nat} (ha : a < dnu d) (hg : g < dnl d) : FX1_targetOf E C (nI a) (nI g) h = xv (nI (tgS d a g)) h := by
  obtain ⟨⟨w1, w2, w3, w4⟩, w5, w6, w7, w8, w9, w10⟩ := m.wd
  unfold FX1_targetOf
  simp (disch := omega) only [↓xg, ↓reduceIte, ↓xjn_d, ↓xlt_d, eq_self, and_self, and_true, true_and, not_true, not_false_iff, ne_eq, true_or, or_true, or_false, false_or, nI_s, nI_leP, nI_eqP, m.k, ↓xnn_e (m.l), m.lk, ↓xb_eq (m.bd ha), ↓xb_eq (m.pl (w9 a ha) hg)]
  rfl
theorem FX1_countBetween_v (m : CM h C U L d) {g f : Nat} (hg : g < dnl d) (hf : f < dnl d) : FX1_countBetween E C (nI g) (nI f) h = xv (btS d g f) h := by
  obtain ⟨⟨w1, w2, w3, w4⟩, w5, w6, w7, w8, w9, w10⟩ := m.wd
  unfold FX1_countBetween
  refine xlp_all (fun i => (sumI (fun a => if tgS d a g = f then 1 else 0) i, nI i)) (fun _ => h) (dnu d) (by omega) (fun a ha ag => ?_) (fun ag => ?_)
  · have hc : ¬ dnu d ≤ a := by omega
    have q : tgS d a g < dnl d := w7 _ _ (w9 a ha) hg
    simp (disch := omega) only [↓xg, ↓reduceIte, ↓xjn_d, ↓xlt_d, eq_self, and_self, and_true, true_and, not_true, not_false_iff, ne_eq, true_or, or_true, or_false, false_or, nI_s, nI_leP, nI_eqP, m.k, ↓xnn_e (m.u), m.uk, m.un, hc, ↓xb_eq (FX1_targetOf_v m ha hg), sumI_s]
    split <;> rfl
  · simp (disch := omega) only [↓xg, ↓reduceIte, ↓xjn_d, ↓xlt_d, eq_self, and_self, and_true, true_and, not_true, not_false_iff, ne_eq, true_or, or_true, or_false, false_or, nI_s, nI_leP, nI_eqP, m.k, ↓xnn_e (m.u), m.uk, m.un, Int32.le_refl]
    rfl
theorem lg_hi {d : MD} (w : Wd d) {x : Nat} (hx : x < dnu d * dnl d) : x / dnl d < dnu d := by
  rw [Nat.div_lt_iff_lt_mul w.1.2.2.1]; exact hx
theorem lg_lo {d : MD} (w : Wd d) (x : Nat) : x % dnl d < dnl d := Nat.mod_lt _ w.1.2.2.1
theorem lg_lt {n m a b : Nat} (ha : a < n) (hb : b < m) : a * m + b < n * m := by
  have : (a + 1) * m ≤ n * m := Nat.mul_le_mul_right m ha
  rw [Nat.add_mul, Nat.one_mul] at this
  omega
theorem lp_lt {d : MD} (w : Wd d) {x y : Nat} (hx : x < dnu d * dnl d) (hy : y < dnu d * dnl d) : lpS d x y < dnu d * dnl d :=
  lg_lt (w.2.1 _ _ (lg_hi w hx) (w.2.2.2.2.2.2 _ _ (lg_lo w x) (lg_hi w hy))) (w.2.2.2.1 _ _ (lg_lo w x) (lg_lo w y))
theorem lg_64 {d : MD} (w : Wd d) : dnu d * dnl d ≤ 64 := by
  have := Nat.mul_le_mul w.1.2.1 w.1.2.2.2
  omega
theorem FX1_hasLarge_v (m : CM h C U L d) (p : Int32) : FX1_hasLarge E C p h = xv (bI (inr p (dnu d * dnl d))) h := by
  unfold FX1_hasLarge inr
  by_cases c1 : p < 0
  · have : ¬ 0 ≤ p := fun q => absurd c1 (Int32.not_lt.mpr q)
    simp (disch := omega) only [↓xg, ↓reduceIte, ↓xjn_d, ↓xlt_d, eq_self, and_self, and_true, true_and, not_true, not_false_iff, ne_eq, true_or, or_true, or_false, false_or, nI_s, nI_leP, nI_eqP, c1, this, false_and, decide_false, bI]
    rfl
  · by_cases c2 : nI (dnu d * dnl d) ≤ p
    · have : ¬ p < nI (dnu d * dnl d) := fun q => absurd q (Int32.not_lt.mpr c2)
      simp (disch := omega) only [↓xg, ↓reduceIte, ↓xjn_d, ↓xlt_d, eq_self, and_self, and_true, true_and, not_true, not_false_iff, ne_eq, true_or, or_true, or_false, false_or, nI_s, nI_leP, nI_eqP, c1, m.k, ↓xnn_e (m.u), ↓xnn_e (m.l), m.uk, m.lk, m.un, m.ln, nI_m, c2, this, and_false, decide_false, bI]
      rfl
    · have h1 : 0 ≤ p := Int32.not_lt.mp c1
      have h2 : p < nI (dnu d * dnl d) := Int32.not_le.mp c2
      simp (disch := omega) only [↓xg, ↓reduceIte, ↓xjn_d, ↓xlt_d, eq_self, and_self, and_true, true_and, not_true, not_false_iff, ne_eq, true_or, or_true, or_false, false_or, nI_s, nI_leP, nI_eqP, c1, m.k, ↓xnn_e (m.u), ↓xnn_e (m.l), m.uk, m.lk, m.un, m.ln, nI_m, c2, h1, h2, decide_true, bI]
theorem FX1_upperPart_v (m : CM h C U L d) {x : Nat} (hx : x < dnu d * dnl d) : FX1_upperPart E C (nI x) h = xv (nI (x / dnl d)) h := by
  obtain ⟨⟨w1, w2, w3, w4⟩, -⟩ := m.wd
  have := lg_64 m.wd
  have hc : ¬ dnl d ≤ 0 := by omega
  have hc2 : ¬ dnl d = 0 := by omega
  have e0 : (nI (dnl d) ≤ (0 : Int32)) = False := eq_false (by rw [← nI_0, nI_leP (by omega) (by omega)]; omega)
  unfold FX1_upperPart
  simp (disch := omega) only [↓xg, ↓reduceIte, ↓xjn_d, ↓xlt_d, eq_self, and_self, and_true, true_and, not_true, not_false_iff, ne_eq, true_or, or_true, or_false, false_or, nI_s, nI_leP, nI_eqP, m.k, ↓xnn_e (m.l), m.lk, m.ln, e0, nI_eq0, hc2, div_nI]
theorem FX1_lowerPart_v (m : CM h C U L d) {x : Nat} (hx : x < dnu d * dnl d) : FX1_lowerPart E C (nI x) h = xv (nI (x % dnl d)) h := by
  obtain ⟨⟨w1, w2, w3, w4⟩, -⟩ := m.wd
  have := lg_64 m.wd
  have hc2 : ¬ dnl d = 0 := by omega
  have e0 : (nI (dnl d) ≤ (0 : Int32)) = False := eq_false (by rw [← nI_0, nI_leP (by omega) (by omega)]; omega)
  unfold FX1_lowerPart
  simp (disch := omega) only [↓xg, ↓reduceIte, ↓xjn_d, ↓xlt_d, eq_self, and_self, and_true, true_and, not_true, not_false_iff, ne_eq, true_or, or_true, or_false, false_or, nI_s, nI_leP, nI_eqP, m.k, ↓xnn_e (m.l), m.lk, m.ln, e0, nI_eq0, hc2, rem_nI]
theorem FX1_largeProduct_v (m : CM h C U L d) {x y : Nat} (hx : x < dnu d * dnl d) (hy : y < dnu d * dnl d) : FX1_largeProduct E C (nI x) (nI y) h = xv (nI (lpS d x y)) h := by
  have w := m.wd
  obtain ⟨⟨w1, w2, w3, w4⟩, w5, w6, w7, w8, w9, w10⟩ := m.wd
  have q1 := lg_hi w hx
  have q2 := lg_hi w hy
  have q3 := lg_lo w x
  have q4 := lg_lo w y
  have q5 := w10 _ _ q3 q2
  unfold FX1_largeProduct
  simp (disch := omega) only [↓xg, ↓reduceIte, ↓xjn_d, ↓xlt_d, eq_self, and_self, and_true, true_and, not_true, not_false_iff, ne_eq, true_or, or_true, or_false, false_or, nI_s, nI_leP, nI_eqP, m.k, ↓xnn_e (m.l), m.lk, m.ln, ↓xnn_e (m.u), m.uk, ↓xb_eq (FX1_lowerPart_v m hx), ↓xb_eq (FX1_lowerPart_v m hy), ↓xb_eq (FX1_upperPart_v m hx), ↓xb_eq (FX1_upperPart_v m hy), ↓xb_eq (m.ac q3 q2), ↓xb_eq (m.pu q1 q5), ↓xb_eq (m.pl q3 q4), nI_m, nI_a]
  rfl
theorem FX1_largePeriod_v (m : CM h C U L d) {x : Nat} (hx : x < dnu d * dnl d) : FX1_largePeriod E C (nI x) h = xv (nI (olS d x)) h := by
  have w := m.wd
  have hp : ∀ i, pw (lpS d) x i < dnu d * dnl d := pw_lt (fun a b ha hb => lp_lt w ha hb) hx
  have h64 := lg_64 w
  unfold FX1_largePeriod olS
  have hm := fi_le 63 (fun i => pw (lpS d) x i == 0)
  refine xlp_all (fun i => (nI (i + 1), nI (pw (lpS d) x i))) (fun _ => h) (fi 63 (fun i => pw (lpS d) x i == 0)) (by omega) (fun i hi ag => ?_) (fun ag => ?_)
  · have h1 := fi_not hi
    have h2 : ¬ pw (lpS d) x i = 0 := by simpa using h1
    have h3 : ¬ 64 ≤ i + 1 := by omega
    have h4 := hp i
    simp (disch := omega) only [↓xg, ↓reduceIte, ↓xjn_d, ↓xlt_d, eq_self, and_self, and_true, true_and, not_true, not_false_iff, ne_eq, true_or, or_true, or_false, false_or, nI_s, nI_leP, nI_eqP, nI_eq0, h2, li64, h3, m.k, ↓xb_eq (FX1_largeProduct_v m (hp i) hx)]
    rfl
  · have h4 := hp (fi 63 (fun i => pw (lpS d) x i == 0))
    by_cases e : fi 63 (fun i => pw (lpS d) x i == 0) < 63
    · have h1 := fi_yes e
      have h2 : pw (lpS d) x (fi 63 (fun i => pw (lpS d) x i == 0)) = 0 := by simpa using h1
      simp (disch := omega) only [↓xg, ↓reduceIte, ↓xjn_d, ↓xlt_d, eq_self, and_self, and_true, true_and, not_true, not_false_iff, ne_eq, true_or, or_true, or_false, false_or, nI_s, nI_leP, nI_eqP, nI_eq0, h2, nI_0]
    · have h3 : 64 ≤ fi 63 (fun i => pw (lpS d) x i == 0) + 1 := by omega
      simp (disch := omega) only [↓xg, ↓reduceIte, ↓xjn_d, ↓xlt_d, eq_self, and_self, and_true, true_and, not_true, not_false_iff, ne_eq, true_or, or_true, or_false, false_or, nI_s, nI_leP, nI_eqP, nI_eq0, li64, h3]
      split <;> rfl
end MOD
