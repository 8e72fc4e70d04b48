/-! The class's groups. -/
set_option linter.unusedVariables false
def GL (h : XH) (A : Nat) : Prop := xk h A = 3 ∧ xr h A 1 = some (A + 1) ∧ xk h (A + 1) = 12 ∧ xn h (A + 1) = 64 ∧ xr h A 2 = some (A + 2) ∧ xk h (A + 2) = 12 ∧ xn h (A + 2) = 8
def GT (h : XH) (A n : Nat) (t : Nat → Nat → Nat) : Prop := xi h A 3 = nI n ∧ 0 < n ∧ n ≤ 8 ∧ ∀ a b, a < n → b < n → xi h (A + 1) (8 * a + b) = nI (t a b) ∧ t a b < n
def GV (h : XH) (A n : Nat) (v : Nat → Nat) : Prop := ∀ a, a < n → xi h (A + 2) a = nI (v a) ∧ v a < n
/-- is it one of n -/
def inr (p : Int32) (n : Nat) : Bool := decide (0 ≤ p ∧ p < nI n)
section GRP
variable {E : XG} {h : XH} {A n : Nat} {t : Nat → Nat → Nat} {v : Nat → Nat}
theorem FX2_product_v (hL : GL h A) (hT : GT h A n t) {a b : Nat} (ha : a < n) (hb : b < n) : FX2_product E A (nI a) (nI b) h = xv (nI (t a b)) h := by
  obtain ⟨l1, l2, l3, l4, l5, l6, l7⟩ := hL
  obtain ⟨t1, t2, t3, t4⟩ := hT
  obtain ⟨e1, e2⟩ := t4 a b ha hb
  have hc : ¬ 64 ≤ 8 * a + b := by omega
  unfold FX2_product
  simp (disch := omega) only [xg, xnn_s, xb_v, xb_x, xlt_d, xjn_d, if_true, if_false, eq_self, and_self, and_true, true_and, not_true, not_false_iff, ne_eq, true_or, or_true, or_false, false_or, nI_8, l1, l2, l3, l4, nI_lt0, ofNat_nI, nI_leP, hc, xin_t, xz_nI, e1]
theorem FX2_opposite_v (hL : GL h A) (hV : GV h A n v) (hn : n ≤ 8) {a : Nat} (ha : a < n) : FX2_opposite E A (nI a) h = xv (nI (v a)) h := by
  obtain ⟨l1, l2, l3, l4, l5, l6, l7⟩ := hL
  obtain ⟨e1, e2⟩ := hV a ha
  unfold FX2_opposite
  simp (disch := omega) only [xg, xnn_s, xb_v, xb_x, xlt_d, xjn_d, if_true, if_false, eq_self, and_self, and_true, true_and, not_true, not_false_iff, ne_eq, true_or, or_true, or_false, false_or, l1, l5, FX8_at_in l6 l7 (show a < 8 by omega), e1]
theorem FX2_conjugateBy_v (hL : GL h A) (hT : GT h A n t) (hV : GV h A n v) {c a : Nat} (hc : c < n) (ha : a < n) : FX2_conjugateBy E A (nI c) (nI a) h = xv (nI (t (t c a) (v c))) h := by
  have l1 := hL.1
  have e1 := (hT.2.2.2 c a hc ha).2
  have e2 := (hV c hc).2
  unfold FX2_conjugateBy
  simp (disch := omega) only [xg, xnn_s, xb_v, xb_x, xlt_d, xjn_d, if_true, if_false, eq_self, and_self, and_true, true_and, not_true, not_false_iff, ne_eq, true_or, or_true, or_false, false_or, l1, FX2_product_v hL hT hc ha, FX2_opposite_v hL hV hT.2.2.1 hc, FX2_product_v hL hT e1 e2]
theorem FX2_has_v (hL : GL h A) (hT : GT h A n t) (p : Int32) : FX2_has E A p h = xv (bI (inr p n)) h := by
  have l1 := hL.1
  have t1 := hT.1
  unfold FX2_has inr
  by_cases c1 : p < 0
  · have : ¬ 0 ≤ p := fun q => absurd c1 (Int32.not_lt.mpr q)
    simp (disch := omega) only [xg, xnn_s, xb_v, xb_x, xlt_d, xjn_d, if_true, if_false, eq_self, and_self, and_true, true_and, not_true, not_false_iff, ne_eq, true_or, or_true, or_false, false_or, c1, this, false_and, decide_false, bI]
    rfl
  · by_cases c2 : nI n ≤ p
    · have : ¬ p < nI n := fun q => absurd q (Int32.not_lt.mpr c2)
      simp (disch := omega) only [xg, xnn_s, xb_v, xb_x, xlt_d, xjn_d, if_true, if_false, eq_self, and_self, and_true, true_and, not_true, not_false_iff, ne_eq, true_or, or_true, or_false, false_or, c1, l1, t1, c2, this, and_false, decide_false, bI]
      rfl
    · have h1 : 0 ≤ p := Int32.not_lt.mp c1
      have h2 : p < nI n := Int32.not_le.mp c2
      simp (disch := omega) only [xg, xnn_s, xb_v, xb_x, xlt_d, xjn_d, if_true, if_false, eq_self, and_self, and_true, true_and, not_true, not_false_iff, ne_eq, true_or, or_true, or_false, false_or, c1, l1, t1, c2, h1, h2, decide_true, bI]
/-- the centre -/
def cenS (n : Nat) (t : Nat → Nat → Nat) : Int32 := orI (fun a => if anyB n (fun b => t a b ≠ t b a) then 0 else sh a) n
theorem FX2_middle_v (hL : GL h A) (hT : GT h A n t) : FX2_middle E A h = xv (cenS n t) h := by
  have l1 := hL.1
  have hT2 := hT
  obtain ⟨t1, t2, t3, t4⟩ := hT2
  unfold FX2_middle
  refine xlp_all (fun i => (orI (fun a => if anyB n (fun b => t a b ≠ t b a) then 0 else sh a) i, nI i)) (fun _ => h) n (by omega) (fun i hi ag => ?_) (fun ag => ?_)
  · have hc : ¬ n ≤ i := by omega
    simp (disch := omega) only [xg, xnn_s, xb_v, xb_x, xlt_d, xjn_d, if_true, if_false, eq_self, and_self, and_true, true_and, not_true, not_false_iff, ne_eq, true_or, or_true, or_false, false_or, l1, t1, nI_leP, hc]
    refine (xlp_flag (fun b => (0, nI b)) (fun b => (1, nI b)) h n (fun b => t i b ≠ t b i) (R1 := ag (orI (fun a => if anyB n (fun b => t a b ≠ t b a) then 0 else sh a) i ||| 0, nI i + 1) h) (R2 := ag (orI (fun a => if anyB n (fun b => t a b ≠ t b a) then 0 else sh a) i ||| sh i, nI i + 1) h) (by omega) (fun b hb ag' => ?_) (fun b hb ag' => ?_) (fun ag' => ?_)).trans ?_
    · have hc2 : ¬ n ≤ b := by omega
      have q1 := (t4 i b hi hb).2
      have q2 := (t4 b i hb hi).2
      simp (disch := omega) only [xg, xnn_s, xb_v, xb_x, xlt_d, xjn_d, if_true, if_false, eq_self, and_self, and_true, true_and, not_true, not_false_iff, ne_eq, true_or, or_true, or_false, false_or, l1, t1, nI_leP, hc2, i1_0, FX2_product_v hL hT hi hb, FX2_product_v hL hT hb hi, nI_eqP, nI_s]
      by_cases e : t i b = t b i <;> simp [e]
    · by_cases hc2 : n ≤ b
      · simp (disch := omega) only [xg, xnn_s, xb_v, xb_x, xlt_d, xjn_d, if_true, if_false, eq_self, and_self, and_true, true_and, not_true, not_false_iff, ne_eq, true_or, or_true, or_false, false_or, l1, t1, nI_leP, hc2]
      · simp (disch := omega) only [xg, xnn_s, xb_v, xb_x, xlt_d, xjn_d, if_true, if_false, eq_self, and_self, and_true, true_and, not_true, not_false_iff, ne_eq, true_or, or_true, or_false, false_or, l1, t1, nI_leP, hc2]
    · simp (disch := omega) only [xg, xnn_s, xb_v, xb_x, xlt_d, xjn_d, if_true, if_false, eq_self, and_self, and_true, true_and, not_true, not_false_iff, ne_eq, true_or, or_true, or_false, false_or, l1, t1, Int32.le_refl, i1_0, sh_d]
    · rw [orI_s, nI_s]
      cases anyB n (fun b => t i b ≠ t b i) <;> rfl
  · simp (disch := omega) only [xg, xnn_s, xb_v, xb_x, xlt_d, xjn_d, if_true, if_false, eq_self, and_self, and_true, true_and, not_true, not_false_iff, ne_eq, true_or, or_true, or_false, false_or, l1, t1, Int32.le_refl]
    rfl
end GRP
