/-! The class's arrows. -/
set_option linter.unusedVariables false
def AL (h : XH) (A : Nat) : Prop := xk h A = 1 ∧ (xr h A 2 = some (A + 1) ∧ xk h (A + 1) = 12 ∧ xn h (A + 1) = 8) ∧ xr h A 3 = some (A + 2) ∧ xk h (A + 2) = 12 ∧ xn h (A + 2) = 8
/-- a row of f at R -/
def RW (h : XH) (R n m : Nat) (f : Nat → Nat) : Prop := (xk h R = 12 ∧ xn h R = 8) ∧ ∀ a, a < n → xi h R a = nI (f a) ∧ f a < m
/-- the arrow at A from the module at C, d, to that at D, e -/
def CA (h : XH) (A C U L : Nat) (d : MD) (D V K : Nat) (e : MD) (tp bt : Nat → Nat) : Prop := AL h A ∧ (xr h A 0 = some C ∧ xr h A 1 = some D) ∧ (CM h C U L d ∧ CM h D V K e) ∧ (xi h C 7 = nI (whyS d) ∧ xi h D 7 = nI (whyS e)) ∧ RW h (A + 1) (dnu d) (dnu e) tp ∧ RW h (A + 2) (dnl d) (dnl e) bt
def kpS (n : Nat) (t t' : Nat → Nat → Nat) (f : Nat → Nat) : Bool := anyB n fun a => anyB n fun b => f (t a b) != t' (f a) (f b)
def a4S (d e : MD) (tp bt : Nat → Nat) : Bool := anyB (dnu d) fun a => dbd e (tp a) != bt (dbd d a)
def a5S (d e : MD) (tp bt : Nat → Nat) : Bool := anyB (dnl d) fun g => anyB (dnu d) fun a => tp (dac d g a) != dac e (bt g) (tp a)
def arS (d e : MD) (tp bt : Nat → Nat) : Nat := if whyS d ≠ 0 ∨ whyS e ≠ 0 then 1 else if kpS (dnu d) (dtu d) (dtu e) tp then 2 else if kpS (dnl d) (dtl d) (dtl e) bt then 3 else if a4S d e tp bt then 4 else if a5S d e tp bt then 5 else 0
def toF (d : MD) (K : Int32) (tp : Nat → Nat) (i : Nat) : Int32 := orI (fun a => if mb K a then sh (tp a) else 0) i
def pkS (d : MD) (K : Int32) (tp : Nat → Nat) : Bool := anyB (dnu d) fun i => mb K i && mb (toF d K tp i) (tp i)
def mtS (d e : MD) (bt : Nat → Nat) : Bool := (!anyB (dnl d) fun a => anyB a fun b => decide (¬ nmS d a = nmS d b) && decide (nmS e (bt a) = nmS e (bt b))) && decide (ccN d = ccN e)
def eqS (d e : MD) (tp bt : Nat → Nat) : Bool := decide (arS d e tp bt = 0) && (decide (cnt (kerS d) 8 = cnt (kerS e) 8) && (!pkS d (kerS d) tp && mtS d e bt))
def bc1 (p : Int32) : Int32 := p - ((p.toUInt32 >>> ((1 : Int32).toUInt32 &&& Int32.toUInt32 31)).toInt32 &&& 1431655765)
def bc2 (p : Int32) : Int32 := (bc1 p &&& 858993459) + (((bc1 p).toUInt32 >>> ((2 : Int32).toUInt32 &&& Int32.toUInt32 31)).toInt32 &&& 858993459)
def bc3 (p : Int32) : Int32 := (bc2 p + ((bc2 p).toUInt32 >>> ((4 : Int32).toUInt32 &&& Int32.toUInt32 31)).toInt32) &&& 252645135
def bc4 (p : Int32) : Int32 := bc3 p + ((bc3 p).toUInt32 >>> ((8 : Int32).toUInt32 &&& Int32.toUInt32 31)).toInt32
def bc5 (p : Int32) : Int32 := (bc4 p + ((bc4 p).toUInt32 >>> ((16 : Int32).toUInt32 &&& Int32.toUInt32 31)).toInt32) &&& 63
theorem bc_all : ∀ j, j < 256 → bc5 (nI j) = nI (cnt (nI j) 8) := by decide +kernel
theorem FJ6_bitCount_v {E : XG} {h : XH} {s : Int32} (hs : inB 8 s) : FJ6_bitCount_0f7a4 E s h = xv (nI (cnt s 8)) h := by
  obtain ⟨j, hj, rfl⟩ := inB_nI (by omega) hs
  rw [← bc_all j hj]
  rfl
theorem inB_orI {f : Nat → Int32} {n m : Nat} (h : ∀ i, i < n → inB m (f i)) : inB m (orI f n) := by
  intro k hk
  rw [mb_orI]
  exact anyB_f.mpr fun i hi => h i hi k hk
theorem inB_sh {j m : Nat} (h : j < m) (h2 : m ≤ 31) : inB m (sh j) := fun k hk => by
  rw [mb_sh (by omega)]
  simp; omega
theorem inB_0 (m : Nat) : inB m 0 := fun k _ => mb_0 k
theorem inB_ite {m : Nat} {c : Prop} [Decidable c] {a b : Int32} (ha : inB m a) (hb : inB m b) : inB m (if c then a else b) := by
  split
  · exact ha
  · exact hb
theorem ker_in {d : MD} (w : Wd d) : inB 8 (kerS d) := inB_orI fun i hi => inB_ite (inB_sh (by have := w.1.2.1; omega) (by omega)) (inB_0 8)
theorem FX0_keepsProducts_v {E : XG} {h : XH} {R A B n m : Nat} {t t' : Nat → Nat → Nat} {f : Nat → Nat} (r : RW h R n m f) (gl : GL h A) (gt : GT h A n t) (gl' : GL h B) (gt' : GT h B m t') : FX0_keepsProducts E R A B h = xv (bI (!kpS n t t' f)) h := by
  have l1 := gl.1
  have l2 := gl'.1
  have n1 := gt.1
  have n2 := gt.2.2.1
  have n3 := gt'.2.2.1
  obtain ⟨⟨r1, r2⟩, r3⟩ := r
  unfold FX0_keepsProducts
  refine (xlp_any (fun i => nI i) h n (fun a => anyB n fun b => f (t a b) != t' (f a) (f b)) (R1 := xv 0 h) (R2 := xv 1 h) (by omega) (fun i hi ag => ?_) (fun ag => ?_)).trans ?_
  · have hc : ¬ n ≤ i := by omega
    (try dsimp only); (rw [xg_t (l1), n1, if_neg (nI_ge hi (by omega))])
    refine xlp_any (fun i => nI i) h n (fun b => f (t i b) != t' (f i) (f b)) (by omega) (fun k hk ag' => ?_) (fun ag' => ?_)
    · have hc2 : ¬ n ≤ k := by omega
      have q1 := (gt.2.2.2 i k hi hk).2
      have q2 := r3 _ q1
      have q3 := r3 i hi
      have q4 := r3 k hk
      have q5 := (gt'.2.2.2 _ _ q3.2 q4.2).2
      simp (disch := omega) only [↓xg, ↓reduceIte, ↓xjn_d, ↓xlt_d, eq_self, and_self, and_true, true_and, not_true, not_false_iff, ne_eq, true_or, or_true, or_false, false_or, nI_s, nI_leP, nI_eqP, l1, n1, l2, hc2, ↓xb_eq (FX2_product_v gl gt hi hk), ↓xb_eq (FX8_at_in r1 r2 (show t i k < 8 by omega) (by omega)), ↓xb_eq (FX8_at_in r1 r2 (show i < 8 by omega) (by omega)), ↓xb_eq (FX8_at_in r1 r2 (show k < 8 by omega) (by omega)), q2.1, q3.1, q4.1, ↓xb_eq (FX2_product_v gl' gt' q3.2 q4.2), ite_bne]
    · simp (disch := omega) only [↓xg, ↓reduceIte, ↓xjn_d, ↓xlt_d, eq_self, and_self, and_true, true_and, not_true, not_false_iff, ne_eq, true_or, or_true, or_false, false_or, nI_s, nI_leP, nI_eqP, l1, n1, Int32.le_refl]
  · simp (disch := omega) only [↓xg, ↓reduceIte, ↓xjn_d, ↓xlt_d, eq_self, and_self, and_true, true_and, not_true, not_false_iff, ne_eq, true_or, or_true, or_false, false_or, nI_s, nI_leP, nI_eqP, l1, n1, Int32.le_refl]
  · unfold kpS; cases anyB n _ <;> rfl
section ARR
variable {E : XG} {h : XH} {A C U L D V K : Nat} {d e : MD} {tp bt : Nat → Nat}
theorem CA.k (m : CA h A C U L d D V K e tp bt) : xk h A = 1 := m.1.1
theorem CA.f (m : CA h A C U L d D V K e tp bt) : xr h A 0 = some C := m.2.1.1
theorem CA.o (m : CA h A C U L d D V K e tp bt) : xr h A 1 = some D := m.2.1.2
theorem CA.cf (m : CA h A C U L d D V K e tp bt) : CM h C U L d := m.2.2.1.1
theorem CA.co (m : CA h A C U L d D V K e tp bt) : CM h D V K e := m.2.2.1.2
theorem CA.wf (m : CA h A C U L d D V K e tp bt) : xi h C 7 = nI (whyS d) := m.2.2.2.1.1
theorem CA.wo (m : CA h A C U L d D V K e tp bt) : xi h D 7 = nI (whyS e) := m.2.2.2.1.2
theorem CA.rt (m : CA h A C U L d D V K e tp bt) : RW h (A + 1) (dnu d) (dnu e) tp := m.2.2.2.2.1
theorem CA.rb (m : CA h A C U L d D V K e tp bt) : RW h (A + 2) (dnl d) (dnl e) bt := m.2.2.2.2.2
theorem whyS_le (d : MD) : whyS d ≤ 5 := by
  unfold whyS
  repeat (first | (split <;> try omega) | omega)
theorem CA.tpv (m : CA h A C U L d D V K e tp bt) {a : Nat} (ha : a < dnu d) : FX0_topOf E A (nI a) h = xv (nI (tp a)) h := by
  obtain ⟨⟨w1, w2, w3, w4⟩, -⟩ := m.cf.wd
  unfold FX0_topOf
  (try dsimp only); (rw [xg_t (m.k), xnn_e (m.1.2.1.1), xb_eq (FX8_at_in m.1.2.1.2.1 m.1.2.1.2.2 (show a < 8 by omega) (by omega)), (m.rt.2 a ha).1])
theorem CA.btv (m : CA h A C U L d D V K e tp bt) {a : Nat} (ha : a < dnl d) : FX0_bottomOf E A (nI a) h = xv (nI (bt a)) h := by
  obtain ⟨⟨w1, w2, w3, w4⟩, -⟩ := m.cf.wd
  unfold FX0_bottomOf
  (try dsimp only); (rw [xg_t (m.k), xnn_e (m.1.2.2.1), xb_eq (FX8_at_in m.1.2.2.2.1 m.1.2.2.2.2 (show a < 8 by omega) (by omega)), (m.rb.2 a ha).1])
theorem FX0_kb (m : CA h A C U L d D V K e tp bt) : FX0_keepsBoundaries E A h = xv (bI (!a4S d e tp bt)) h := by
  obtain ⟨⟨w1, w2, w3, w4⟩, w5, w6, w7, w8, w9, w10⟩ := m.cf.wd
  obtain ⟨⟨v1, v2, v3, v4⟩, v5, v6, v7, v8, v9, v10⟩ := m.co.wd
  unfold FX0_keepsBoundaries
  refine (xlp_any (fun i => nI i) h (dnu d) (fun a => dbd e (tp a) != bt (dbd d a)) (R1 := xv 0 h) (R2 := xv 1 h) (by omega) (fun a ha ag => ?_) (fun ag => ?_)).trans ?_
  · have hc : ¬ dnu d ≤ a := by omega
    have q1 := (m.rt.2 a ha).2
    have q2 := w9 a ha
    have q3 := (m.rb.2 _ q2).2
    have q4 := v9 _ q1
    simp (disch := omega) only [↓xg, ↓reduceIte, ↓xjn_d, ↓xlt_d, eq_self, and_self, and_true, true_and, not_true, not_false_iff, ne_eq, true_or, or_true, or_false, false_or, nI_s, nI_leP, nI_eqP, m.k, ↓xnn_e (m.f), ↓xnn_e (m.o), m.cf.k, m.co.k, ↓xnn_e (m.cf.u), m.cf.uk, m.cf.un, hc, ↓xb_eq (m.tpv ha), ↓xb_eq (m.co.bd q1), ↓xb_eq (m.cf.bd ha), ↓xb_eq (m.btv q2), ite_bne]
  · simp (disch := omega) only [↓xg, ↓reduceIte, ↓xjn_d, ↓xlt_d, eq_self, and_self, and_true, true_and, not_true, not_false_iff, ne_eq, true_or, or_true, or_false, false_or, nI_s, nI_leP, nI_eqP, m.k, ↓xnn_e (m.f), m.cf.k, ↓xnn_e (m.cf.u), m.cf.uk, m.cf.un, Int32.le_refl]
  · unfold a4S; cases anyB (dnu d) _ <;> rfl
theorem FX0_ka (m : CA h A C U L d D V K e tp bt) : FX0_keepsActions E A h = xv (bI (!a5S d e tp bt)) h := by
  obtain ⟨⟨w1, w2, w3, w4⟩, w5, w6, w7, w8, w9, w10⟩ := m.cf.wd
  obtain ⟨⟨v1, v2, v3, v4⟩, v5, v6, v7, v8, v9, v10⟩ := m.co.wd
  unfold FX0_keepsActions
  refine (xlp_any (fun i => nI i) h (dnl d) (fun g => anyB (dnu d) fun a => tp (dac d g a) != dac e (bt g) (tp a)) (R1 := xv 0 h) (R2 := xv 1 h) (by omega) (fun g hg ag => ?_) (fun ag => ?_)).trans ?_
  · have hc : ¬ dnl d ≤ g := by omega
    (try dsimp only); (rw [xg_t (m.k), xnn_e (m.f), xg_t (m.cf.k), xnn_e (m.cf.l), xg_t (m.cf.lk), m.cf.ln, if_neg (nI_ge hg (by omega))])
    refine xlp_any (fun i => nI i) h (dnu d) (fun a => tp (dac d g a) != dac e (bt g) (tp a)) (by omega) (fun a ha ag' => ?_) (fun ag' => ?_)
    · have hc2 : ¬ dnu d ≤ a := by omega
      have q1 := w10 g a hg ha
      have q2 := (m.rt.2 _ q1).2
      have q3 := (m.rb.2 g hg).2
      have q4 := (m.rt.2 a ha).2
      have q5 := v10 _ _ q3 q4
      simp (disch := omega) only [↓xg, ↓reduceIte, ↓xjn_d, ↓xlt_d, eq_self, and_self, and_true, true_and, not_true, not_false_iff, ne_eq, true_or, or_true, or_false, false_or, nI_s, nI_leP, nI_eqP, m.k, ↓xnn_e (m.f), ↓xnn_e (m.o), m.cf.k, m.co.k, ↓xnn_e (m.cf.u), m.cf.uk, m.cf.un, hc2, ↓xb_eq (m.cf.ac hg ha), ↓xb_eq (m.tpv q1), ↓xb_eq (m.btv hg), ↓xb_eq (m.tpv ha), ↓xb_eq (m.co.ac q3 q4), ite_bne]
    · simp (disch := omega) only [↓xg, ↓reduceIte, ↓xjn_d, ↓xlt_d, eq_self, and_self, and_true, true_and, not_true, not_false_iff, ne_eq, true_or, or_true, or_false, false_or, nI_s, nI_leP, nI_eqP, m.k, ↓xnn_e (m.f), m.cf.k, ↓xnn_e (m.cf.u), m.cf.uk, m.cf.un, Int32.le_refl]
  · simp (disch := omega) only [↓xg, ↓reduceIte, ↓xjn_d, ↓xlt_d, eq_self, and_self, and_true, true_and, not_true, not_false_iff, ne_eq, true_or, or_true, or_false, false_or, nI_s, nI_leP, nI_eqP, m.k, ↓xnn_e (m.f), m.cf.k, ↓xnn_e (m.cf.l), m.cf.lk, m.cf.ln, Int32.le_refl]
  · unfold a5S; cases anyB (dnl d) _ <;> rfl
theorem FX0_firstReason_v (m : CA h A C U L d D V K e tp bt) : FX0_firstReason E A h = xv (nI (arS d e tp bt)) h := by
  have h1 := whyS_le d
  have h2 := whyS_le e
  unfold FX0_firstReason arS
  (try dsimp only); (rw [xg_t (m.k), xnn_e (m.f), xg_t (m.cf.k), xjn_d, m.wf])
  by_cases c1 : whyS d = 0
  · by_cases c2 : whyS e = 0
    · simp (disch := omega) only [↓xg, ↓reduceIte, ↓xjn_d, ↓xlt_d, eq_self, and_self, and_true, true_and, not_true, not_false_iff, ne_eq, true_or, or_true, or_false, false_or, nI_s, nI_leP, nI_eqP, nI_eq0, c1, c2, m.k, ↓xnn_e (m.f), ↓xnn_e (m.o), m.cf.k, m.co.k, m.wo, ↓xnn_e (m.1.2.1.1), ↓xnn_e (m.1.2.2.1), ↓xnn_e (m.cf.u), ↓xnn_e (m.cf.l), ↓xnn_e (m.co.u), ↓xnn_e (m.co.l), ↓xb_eq (FX0_keepsProducts_v m.rt m.cf.2.2.1.1 m.cf.2.2.1.2.1 m.co.2.2.1.1 m.co.2.2.1.2.1), ↓xb_eq (FX0_keepsProducts_v m.rb m.cf.2.2.2.1.1 m.cf.2.2.2.1.2.1 m.co.2.2.2.1.1 m.co.2.2.2.1.2.1), ↓xb_eq (FX0_kb m), ↓xb_eq (FX0_ka m), bI_eq0, Bool.not_eq_eq_eq_not, Bool.not_false]
      cases kpS (dnu d) (dtu d) (dtu e) tp
      · cases kpS (dnl d) (dtl d) (dtl e) bt
        · cases a4S d e tp bt
          · cases a5S d e tp bt <;> rfl
          · rfl
        · rfl
      · rfl
    · simp (disch := omega) only [↓xg, ↓reduceIte, ↓xjn_d, ↓xlt_d, eq_self, and_self, and_true, true_and, not_true, not_false_iff, ne_eq, true_or, or_true, or_false, false_or, nI_s, nI_leP, nI_eqP, nI_eq0, c1, c2, m.k, ↓xnn_e (m.o), m.co.k, m.wo]
      rfl
  · simp (disch := omega) only [↓xg, ↓reduceIte, ↓xjn_d, ↓xlt_d, eq_self, and_self, and_true, true_and, not_true, not_false_iff, ne_eq, true_or, or_true, or_false, false_or, nI_s, nI_leP, nI_eqP, nI_eq0, c1]
    rfl
theorem FX0_partsKernel_v (m : CA h A C U L d D V K e tp bt) (k : Int32) : FX0_partsKernel E A k h = xv (bI (!pkS d k tp)) h := by
  obtain ⟨⟨w1, w2, w3, w4⟩, w5, w6, w7, w8, w9, w10⟩ := m.cf.wd
  obtain ⟨⟨v1, v2, v3, v4⟩, -⟩ := m.co.wd
  unfold FX0_partsKernel
  refine (xlp_any (fun i => (toF d k tp i, nI i)) h (dnu d) (fun i => mb k i && mb (toF d k tp i) (tp i)) (R1 := xv 0 h) (R2 := xv 1 h) (by omega) (fun a ha ag => ?_) (fun ag => ?_)).trans ?_
  · have hc : ¬ dnu d ≤ a := by omega
    have q1 := (m.rt.2 a ha).2
    have e1 : toF d k tp (a + 1) = toF d k tp a ||| (if mb k a then sh (tp a) else 0) := rfl
    cases hk : mb k a
    · rw [hk] at e1
      simp (disch := omega) only [↓xg, ↓reduceIte, ↓xjn_d, ↓xlt_d, eq_self, and_self, and_true, true_and, not_true, not_false_iff, ne_eq, true_or, or_true, or_false, false_or, nI_s, nI_leP, nI_eqP, m.k, ↓xnn_e (m.f), m.cf.k, ↓xnn_e (m.cf.u), m.cf.uk, m.cf.un, hc, ↓xb_eq (FX8_isIn_v k (show a < 32 by omega)), hk, bI_eq0, xlt_d, e1, Bool.false_eq_true, Bool.false_and]
    · rw [hk] at e1
      simp (disch := omega) only [↓xg, ↓reduceIte, ↓xjn_d, ↓xlt_d, eq_self, and_self, and_true, true_and, not_true, not_false_iff, ne_eq, true_or, or_true, or_false, false_or, nI_s, nI_leP, nI_eqP, m.k, ↓xnn_e (m.f), m.cf.k, ↓xnn_e (m.cf.u), m.cf.uk, m.cf.un, hc, ↓xb_eq (FX8_isIn_v k (show a < 32 by omega)), ↓xb_eq (FX8_isIn_v (toF d k tp a) (show tp a < 32 by omega)), hk, bI_eq0, xlt_d, e1, reduceCtorEq, Bool.true_and, ↓xb_eq (m.tpv ha), sh_d]
      cases mb (toF d k tp a) (tp a)
      · simp (disch := omega) only [↓xg, ↓reduceIte, ↓xjn_d, ↓xlt_d, eq_self, and_self, and_true, true_and, not_true, not_false_iff, ne_eq, true_or, or_true, or_false, false_or, nI_s, nI_leP, nI_eqP, Bool.false_eq_true]
      · simp (disch := omega) only [↓xg, ↓reduceIte, ↓xjn_d, ↓xlt_d, eq_self, and_self, and_true, true_and, not_true, not_false_iff, ne_eq, true_or, or_true, or_false, false_or, nI_s, nI_leP, nI_eqP, reduceCtorEq]
  · simp (disch := omega) only [↓xg, ↓reduceIte, ↓xjn_d, ↓xlt_d, eq_self, and_self, and_true, true_and, not_true, not_false_iff, ne_eq, true_or, or_true, or_false, false_or, nI_s, nI_leP, nI_eqP, m.k, ↓xnn_e (m.f), m.cf.k, ↓xnn_e (m.cf.u), m.cf.uk, m.cf.un, Int32.le_refl]
  · unfold pkS; cases anyB (dnu d) _ <;> rfl
theorem RW.iw {h h' : XH} {R n m : Nat} {f : Nat → Nat} {B : Nat → Prop} (r : RW h R n m f) (w : iw B h h') (h0 : ¬ B R) : RW h' R n m f :=
  ⟨⟨by rw [w.k]; exact r.1.1, by rw [w.n]; exact r.1.2⟩, fun a ha => by rw [w.i _ h0]; exact r.2 a ha⟩
/-- where an arrow's things lie apart from the pairs' rows -/
def apA (A C U L D V K : Nat) : Prop := (U + 2 < C ∧ L + 2 < C ∧ V + 2 < C ∧ K + 2 < C) ∧ (U + 2 < D ∧ L + 2 < D ∧ V + 2 < D ∧ K + 2 < D) ∧ (C = D ∨ C + 7 < D ∨ D + 7 < C) ∧ C + 7 < A ∧ D + 7 < A
abbrev rBoth (C D a : Nat) : Prop := rPairs C a ∨ rPairs D a
theorem CA.iw {h h' : XH} {B : Nat → Prop} (m : CA h A C U L d D V K e tp bt) (ap : apA A C U L D V K) (w : iw B h h') (hB : ∀ a, B a → rBoth C D a) : CA h' A C U L d D V K e tp bt := by
  unfold apA at ap
  refine ⟨?_, ⟨by rw [w.r]; exact m.f, by rw [w.r]; exact m.o⟩, ⟨m.cf.iw w fun a q => ?_, m.co.iw w fun a q => ?_⟩, ⟨?_, ?_⟩, m.rt.iw w fun q => ?_, m.rb.iw w fun q => ?_⟩
  · have := m.1; obtain ⟨f, rfl, -⟩ := w; exact this
  · have := hB a q; unfold rBoth rPairs at this; omega
  · have := hB a q; unfold rBoth rPairs at this; omega
  · rw [w.i _ (fun q => by have := hB _ q; unfold rBoth rPairs at this; omega)]; exact m.wf
  · rw [w.i _ (fun q => by have := hB _ q; unfold rBoth rPairs at this; omega)]; exact m.wo
  · have := hB _ q; unfold rBoth rPairs at this; omega
  · have := hB _ q; unfold rBoth rPairs at this; omega
theorem FX0_matchesClasses_o (m : CA h A C U L d D V K e tp bt) (ap : apA A C U L D V K) (hde : C = D → d = e) (l : LW d) (l' : LW e) : xo (FX0_matchesClasses E A h) (fun v h' => v = bI (mtS d e bt) ∧ iw (rBoth C D) h h') := by
  obtain ⟨⟨w1, w2, w3, w4⟩, w5, w6, w7, w8, w9, w10⟩ := m.cf.wd
  have ap2 := ap
  unfold apA at ap2
  have c8 := ccN_8 l
  have c8' := ccN_8 l'
  unfold FX0_matchesClasses
  refine xo_g m.k (xo_n m.f (xo_g m.cf.k (xo_n m.cf.pr (xo_g m.k (xo_n m.o (xo_g m.co.k (xo_n m.co.pr (xo_g m.k (xo_n m.f (xo_g m.cf.pk (xo_b (FX4_sortClasses_o m.cf (by omega) (by omega)) (fun _ h2 q2 => ?_))))))))))))
  obtain ⟨i2, p2⟩ := q2
  have i2 : iw (rBoth C D) h h2 := i2.wide (fun a q => by unfold rPair at q; unfold rBoth rPairs; omega)
  have m2 := m.iw ap i2 (fun _ q => q)
  refine xo_g m2.k (xo_n m2.o (xo_g m2.co.pk (xo_b (FX4_sortClasses_o m2.co (by omega) (by omega)) (fun _ h4 q4 => ?_))))
  obtain ⟨i4, p4⟩ := q4
  have p2 : PV h4 (C + 3) d (dnl d) := by
    by_cases e0 : C = D
    · have := hde e0
      subst this e0
      exact p4
    · exact p2.iw i4 (fun q => by unfold rPair at q; omega) (fun q => by unfold rPair at q; omega) (fun q => by unfold rPair at q; omega)
  have i4 : iw (rBoth C D) h h4 := i2.trans i4 (fun _ q => q) (fun a q => by unfold rPair at q; unfold rBoth rPairs; omega)
  have m4 := m.iw ap i4 (fun _ q => q)
  refine xo_e (v := bI (mtS d e bt)) (h := h4) ?_ ⟨rfl, i4⟩
  refine (xlp_any (fun i => nI i) h4 (dnl d) (fun a => anyB a fun b => decide (¬ nmS d a = nmS d b) && decide (nmS e (bt a) = nmS e (bt b))) (R1 := xv 0 h4) (R2 := xv (bI (decide (ccN d = ccN e))) h4) (by omega) (fun a ha ag => ?_) (fun ag => ?_)).trans ?_
  · have hc : ¬ dnl d ≤ a := by omega
    (try dsimp only); (rw [xg_t (m4.k), xnn_e (m4.f), xg_t (m4.cf.k), xnn_e (m4.cf.l), xg_t (m4.cf.lk), m4.cf.ln, if_neg (nI_ge ha (by omega))])
    refine xlp_any (fun i => nI i) h4 a (fun b => decide (¬ nmS d a = nmS d b) && decide (nmS e (bt a) = nmS e (bt b))) (by omega) (fun b hb ag' => ?_) (fun ag' => ?_)
    · have hc2 : ¬ a ≤ b := by omega
      have hb2 : b < dnl d := by omega
      have q1 := (m4.rb.2 a ha).2
      have q2 := (m4.rb.2 b hb2).2
      have q3 := (l.nm ha).2.1
      have q4 := (l.nm hb2).2.1
      have q5 := (l'.nm q1).2.1
      have q6 := (l'.nm q2).2.1
      have l8' := l'.l8
      simp (disch := omega) only [↓xg, ↓reduceIte, ↓xjn_d, ↓xlt_d, eq_self, and_self, and_true, true_and, not_true, not_false_iff, ne_eq, true_or, or_true, or_false, false_or, nI_s, nI_leP, nI_eqP, hc2, m4.cf.pk, m4.co.pk, ↓xb_eq (m4.cf.ch (show a < 8 by omega)), ↓xb_eq (m4.cf.ch (show b < 8 by omega)), p2.nm l ha, p2.nm l hb2, m4.k, ↓xb_eq (m4.btv ha), ↓xb_eq (m4.btv hb2), ↓xb_eq (m4.co.ch (show bt a < 8 by omega)), ↓xb_eq (m4.co.ch (show bt b < 8 by omega)), p4.nm l' q1, p4.nm l' q2]
      by_cases c1 : nmS d a = nmS d b
      · simp [c1]
      · by_cases c2 : nmS e (bt a) = nmS e (bt b)
        · simp [c1, c2, i1_0]
        · simp [c1, c2, i1_0]
    · simp (disch := omega) only [↓xg, ↓reduceIte, ↓xjn_d, ↓xlt_d, eq_self, and_self, and_true, true_and, not_true, not_false_iff, ne_eq, true_or, or_true, or_false, false_or, nI_s, nI_leP, nI_eqP, Int32.le_refl]
  · simp (disch := omega) only [↓xg, ↓reduceIte, ↓xjn_d, ↓xlt_d, eq_self, and_self, and_true, true_and, not_true, not_false_iff, ne_eq, true_or, or_true, or_false, false_or, nI_s, nI_leP, nI_eqP, m4.k, ↓xnn_e (m4.f), m4.cf.k, ↓xnn_e (m4.cf.l), m4.cf.lk, m4.cf.ln, Int32.le_refl, m4.cf.pk, m4.co.pk, p2.cc, p4.cc]
    by_cases c : ccN d = ccN e
    · simp [c, bI]
    · simp [c, bI]
  · unfold mtS
    cases anyB (dnl d) _
    · rfl
    · rfl
theorem FX0_joinsAlikePairs_o (m : CA h A C U L d D V K e tp bt) (ap : apA A C U L D V K) (hde : C = D → d = e) (gd : GD d) (ge : GD e) : xo (FX0_joinsAlikePairs E A h) (fun v h' => v = bI (eqS d e tp bt) ∧ iw (rBoth C D) h h') := by
  unfold FX0_joinsAlikePairs eqS
  have ha : arS d e tp bt ≤ 5 := by
    unfold arS
    repeat (first | (split <;> try omega) | omega)
  refine xo_g m.k (xo_eb (FX0_firstReason_v m) ?_)
  by_cases c0 : arS d e tp bt = 0
  · rw [c0]
    have hw : whyS d = 0 ∧ whyS e = 0 := by
      unfold arS at c0
      by_cases q : whyS d ≠ 0 ∨ whyS e ≠ 0
      · rw [if_pos q] at c0; cases c0
      · exact ⟨Decidable.of_not_not fun z => q (Or.inl z), Decidable.of_not_not fun z => q (Or.inr z)⟩
    have l := LW_of m.cf.wd gd hw.1
    have l' := LW_of m.co.wd ge hw.2
    refine xo_t rfl (xo_g m.k (xo_n m.f (xo_g m.cf.k (xo_eb (FX1_kernelSet_v m.cf) (xo_g m.k (xo_n m.o (xo_g m.co.k (xo_eb (FX1_kernelSet_v m.co) (xo_eb (FJ6_bitCount_v (ker_in l.w)) (xo_eb (FJ6_bitCount_v (ker_in l'.w)) (xo_jn (xo_jn ?_)))))))))))) 
    have k1 := cnt_le (kerS d) 8
    have k2 := cnt_le (kerS e) 8
    by_cases c1 : cnt (kerS d) 8 = cnt (kerS e) 8
    · refine xo_t (by rw [c1]) (xo_g m.k (xo_eb (FX0_partsKernel_v m _) ?_))
      cases c2 : pkS d (kerS d) tp
      · refine xo_f (by decide) (xo_g m.k (xo_b (FX0_matchesClasses_o m ap hde l l') (fun v h2 q2 => ?_)))
        obtain ⟨rfl, i2⟩ := q2
        cases c3 : mtS d e bt
        · refine xo_t rfl (xo_g (Or.inl rfl) (xo_v ⟨?_, i2⟩))
          simp [c1, bI]
        · refine xo_f (by decide) (xo_g (Or.inr rfl) (xo_v ⟨?_, i2⟩))
          simp [c1, bI]
      · refine xo_t rfl (xo_g (Or.inl rfl) (xo_v ⟨?_, iw.refl _ _⟩))
        simp [bI]
    · refine xo_f (by rw [nI_eqP (by omega) (by omega)]; exact c1) (xo_g (Or.inl rfl) (xo_v ⟨?_, iw.refl _ _⟩))
      simp [c1, bI]
  · refine xo_f (by rw [nI_eq0 (by omega)]; exact c0) (xo_g (Or.inl rfl) (xo_v ⟨?_, iw.refl _ _⟩))
    simp [c0, bI]
end ARR
