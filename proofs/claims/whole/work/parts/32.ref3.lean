/-! The reference's pairs, large groups and arrows. -/
set_option linter.unusedVariables false
theorem bI_01 (b : Bool) : bI b = 0 ∨ bI b = 1 := by cases b <;> simp [bI]
theorem fl_e (c : Prop) [Decidable c] : (if c then (1 : Int32) else 0) = bI (decide c) := by
  by_cases q : c <;> simp [q, bI]
/-- the arrow a of the reference, from module m, d, to module o, e -/
def YA (h : XH) (Y a m u l o v k : Nat) (d e : MD) (tp bt : Nat → Nat) : Prop := (a < 8 ∧ xi h (Y + 5) a = nI m ∧ xi h (Y + 6) a = nI o) ∧ (YM h Y m u l d ∧ YM h Y o v k e) ∧ (∀ x, x < dnu d → xi h (Y + 8) (432 + 8 * a + x) = nI (tp x) ∧ tp x < dnu e) ∧ ∀ g, g < dnl d → xi h (Y + 8) (496 + 8 * a + g) = nI (bt g) ∧ bt g < dnl e
section YMS
variable {E : XG} {h : XH} {Y m u l o v k a : Nat} {d e : MD} {tp bt : Nat → Nat}
theorem FX9_flag_v {E : XG} {h : XH} (b : Bool) : FX9_flag E (bI b) h = xv (if b then 1 else 0) h := by cases b <;> rfl
theorem FX9_ones_v {s : Int32} : FX9_ones E s h = xv (nI (cnt s 8)) h := by
  unfold FX9_ones
  refine xlp_all (fun i => (nI (cnt s i), nI i)) (fun _ => h) 8 (by omega) (fun i hi ag => ?_) (fun ag => ?_)
  · have hc : ¬ 8 ≤ i := by omega
    have e : cnt s (i + 1) = cnt s i + if mb s i then 1 else 0 := rfl
    simp (disch := omega) only [↓xg, ↓reduceIte, ↓xjn_d, ↓xlt_d, eq_self, and_self, and_true, true_and, not_true, not_false_iff, ne_eq, true_or, or_true, or_false, false_or, nI_s, nI_leP, nI_eqP, li8, hc, isin_eq s (show i < 32 by omega), xlt_d, e]
    cases mb s i
    · rw [if_neg (by decide), if_neg (by decide), or_1e]
      rfl
    · rw [if_pos rfl, if_pos rfl, nI_s]
  · simp (disch := omega) only [↓xg, ↓reduceIte, ↓xjn_d, ↓xlt_d, eq_self, and_self, and_true, true_and, not_true, not_false_iff, ne_eq, true_or, or_true, or_false, false_or, nI_s, nI_leP, nI_eqP, li8, Int32.le_refl]
theorem FX9_classProduct_v (M : YM h Y m u l d) (L : LW d) (c : YC h Y d) {a b : Nat} (ha : a < ccN d) (hb : b < ccN d) : FX9_classProduct E Y (nI m) (nI a) (nI b) h = xv (nI (cpS d a b)) h := by
  have y := M.y
  have h8 := ccN_8 L
  have l8 := L.l8
  have q := L.gl.cl (L.ls ha) (L.ls hb)
  unfold FX9_classProduct
  simp (disch := omega) only [↓xg, ↓reduceIte, ↓xjn_d, ↓xlt_d, eq_self, and_self, and_true, true_and, not_true, not_false_iff, ne_eq, true_or, or_true, or_false, false_or, nI_s, nI_leP, nI_eqP, y.1, ↓xnn_e (y.r21), ↓xnn_e (y.r22), y.k21, y.k22, y.n21, y.n22, xin_t, xz_nI, c.2 a ha, c.2 b hb, ↓xb_eq (FX9_down_v M (L.ls ha) (L.ls hb)), c.1 _ q]
  rfl
theorem FX9_profileOf_k (M : YM h Y m u l d) (gd : GD d) {x : Nat} (hx : x ≤ 8) : FX9_profileOf E Y (nI m) 0 (nI x) h = xv (koS d x) h := by
  obtain ⟨⟨w1, w2, w3, w4⟩, w5, w6, w7, w8, w9, w10⟩ := M.wd gd
  have y := M.y
  have h6 := M.1.2
  unfold FX9_profileOf
  rw [if_pos rfl]
  refine xlp_all (fun i => (sumI (fun a => if dbd d a = 0 ∧ odS (dtu d) a = x then 1 else 0) i, nI i)) (fun _ => h) (dnu d) (by omega) (fun a ha ag => ?_) (fun ag => ?_)
  · have hc : ¬ dnu d ≤ a := by omega
    have q := w9 a ha
    have q2 := odS_le (dtu d) a
    rw [sumI_s]
    by_cases c1 : dbd d a = 0
    · by_cases c2 : odS (dtu d) a = x
      · simp (disch := omega) only [↓xg, ↓reduceIte, ↓xjn_d, ↓xlt_d, eq_self, and_self, and_true, true_and, not_true, not_false_iff, ne_eq, true_or, or_true, or_false, false_or, nI_s, nI_leP, nI_eqP, y.1, ↓xb_eq (FX9_uppers_v M), hc, ↓xb_eq (FX9_boundaryOf_v M ha), nI_eq0, c1, ↓xnn_e (y.r3), y.k3, y.n3, xin_t, xz_nI, M.2.1.1, ↓xb_eq (FX9_orderIn_v y M.2.2.1.1 gd.1 ha), c2]
        rfl
      · simp (disch := omega) only [↓xg, ↓reduceIte, ↓xjn_d, ↓xlt_d, eq_self, and_self, and_true, true_and, not_true, not_false_iff, ne_eq, true_or, or_true, or_false, false_or, nI_s, nI_leP, nI_eqP, y.1, ↓xb_eq (FX9_uppers_v M), hc, ↓xb_eq (FX9_boundaryOf_v M ha), nI_eq0, c1, ↓xnn_e (y.r3), y.k3, y.n3, xin_t, xz_nI, M.2.1.1, ↓xb_eq (FX9_orderIn_v y M.2.2.1.1 gd.1 ha), c2]
        rfl
    · have ef : FX9_flag E 0 h = xv 0 h := rfl
      simp (disch := omega) only [↓xg, ↓reduceIte, ↓xjn_d, ↓xlt_d, eq_self, and_self, and_true, true_and, not_true, not_false_iff, ne_eq, true_or, or_true, or_false, false_or, nI_s, nI_leP, nI_eqP, y.1, ↓xb_eq (FX9_uppers_v M), hc, ↓xb_eq (FX9_boundaryOf_v M ha), nI_eq0, c1, ↓xb_eq (ef), xlt_d, false_and]
  · simp (disch := omega) only [↓xg, ↓reduceIte, ↓xjn_d, ↓xlt_d, eq_self, and_self, and_true, true_and, not_true, not_false_iff, ne_eq, true_or, or_true, or_false, false_or, nI_s, nI_leP, nI_eqP, y.1, ↓xb_eq (FX9_uppers_v M), Int32.le_refl]
    rfl
theorem FX9_profileOf_c (M : YM h Y m u l d) (L : LW d) {x : Nat} (hx : x ≤ 8) : xo (FX9_profileOf E Y (nI m) 1 (nI x) h) (fun v h' => v = coS d x ∧ iw (rCl Y) h h') := by
  have y := M.y
  have h8 := ccN_8 L
  have ap : ∀ a, rCl Y a → a < Y + 1 ∨ Y + 8 < a := fun a q => by unfold rCl at q; omega
  unfold FX9_profileOf
  refine xo_f (by decide) (xo_g y.1 (xo_b (FX9_laysClasses_o M L) (fun v1 h2 q2 => ?_)))
  obtain ⟨rfl, i2, yc⟩ := q2
  have M2 := M.iw i2 ap
  have y2 := M2.y
  refine xo_e (v := coS d x) (h := h2) ?_ ⟨rfl, i2⟩
  refine xlp_all (fun i => (sumI (fun a => if cdS d a = x then 1 else 0) i, nI i)) (fun _ => h2) (ccN d) (by omega) (fun a ha ag => ?_) (fun ag => ?_)
  · have hc : ¬ ccN d ≤ a := by omega
    have q2 := cdS_le d a
    obtain ⟨z1, z2⟩ := L.cd_first ha
    have hp : ∀ i, pw (cpS d) a i < ccN d := by
      intro i
      induction i with
      | zero => exact ha
      | succ i ih => exact L.cp_lt ih ha
    have hm := fi_le 7 (fun i => pw (cpS d) a i == 0)
    (try dsimp only); (rw [if_neg (nI_ge ha (by omega))])
    refine xlp_all (fun i => (nI (i + 1), nI (pw (cpS d) a i))) (fun _ => h2) (fi 7 (fun i => pw (cpS d) a i == 0)) (by omega) (fun i hi ag' => ?_) (fun ag' => ?_)
    · have z3 := z2 i hi
      have z4 := hp i
      simp (disch := omega) only [↓xg, ↓reduceIte, ↓xjn_d, ↓xlt_d, eq_self, and_self, and_true, true_and, not_true, not_false_iff, ne_eq, true_or, or_true, or_false, false_or, nI_s, nI_leP, nI_eqP, nI_eq0, z3, y2.1, ↓xb_eq (FX9_classProduct_v M2 L yc (hp i) ha)]
      rfl
    · rw [sumI_s]
      have e1 : fi 7 (fun i => pw (cpS d) a i == 0) + 1 = cdS d a := rfl
      rw [e1]
      by_cases c : cdS d a = x
      · simp (disch := omega) only [↓xg, ↓reduceIte, ↓xjn_d, ↓xlt_d, eq_self, and_self, and_true, true_and, not_true, not_false_iff, ne_eq, true_or, or_true, or_false, false_or, nI_s, nI_leP, nI_eqP, z1, nI_0, c]
        rfl
      · simp (disch := omega) only [↓xg, ↓reduceIte, ↓xjn_d, ↓xlt_d, eq_self, and_self, and_true, true_and, not_true, not_false_iff, ne_eq, true_or, or_true, or_false, false_or, nI_s, nI_leP, nI_eqP, z1, nI_0, c]
        rfl
  · simp (disch := omega) only [↓xg, ↓reduceIte, ↓xjn_d, ↓xlt_d, eq_self, and_self, and_true, true_and, not_true, not_false_iff, ne_eq, true_or, or_true, or_false, false_or, nI_s, nI_leP, nI_eqP, Int32.le_refl]
    rfl
theorem FX9_alike_o (M : YM h Y m u l d) (M' : YM h Y o v k e) (L : LW d) (L' : LW e) : xo (FX9_alike E Y (nI m) (nI o) h) (fun v h' => v = bI (alS d e) ∧ iw (rCl Y) h h') := by
  have ap : ∀ a, rCl Y a → a < Y + 1 ∨ Y + 8 < a := fun a q => by unfold rCl at q; omega
  unfold FX9_alike
  refine xlp_inv (Po := fun m => xo m _) (fun i s h' => s = nI (i + 1) ∧ iw (rCl Y) h h' ∧ ∀ j, j < i → koS d (j + 1) = koS e (j + 1) ∧ coS d (j + 1) = coS e (j + 1)) 8 (by omega) (fun i s h' ag hi I again => ?_) ⟨rfl, iw.refl _ _, fun j hj => absurd hj (Nat.not_lt_zero _)⟩
  obtain ⟨rfl, iW, hall⟩ := I
  by_cases e8 : i = 8
  · subst e8
    refine xo_t (by decide) (xo_g (Or.inr rfl) (xo_v ⟨?_, iW⟩))
    unfold alS
    rw [anyB_f.mpr (fun j hj => by have := hall j hj; simp [this.1, this.2])]
    rfl
  · have hlt : i < 8 := by omega
    have M2 := M.iw iW ap
    have M2' := M'.iw iW ap
    have hno : ∀ {i}, i < 8 → (koS d (i + 1) ≠ koS e (i + 1) ∨ coS d (i + 1) ≠ coS e (i + 1)) → (0 : Int32) = bI (alS d e) := fun {i} hi q => by
      unfold alS
      rw [anyB_iff.mpr ⟨i, hi, by simpa using q⟩]
      rfl
    refine xo_f (by rw [li8, nI_ltP (by omega) (by omega)]; omega) (xo_g M2.y.1 (xo_eb (FX9_profileOf_k M2 L.2.1 (by omega)) (xo_g M2.y.1 (xo_eb (FX9_profileOf_k M2' L'.2.1 (by omega)) (xo_jn ?_)))))
    by_cases c1 : koS d (i + 1) = koS e (i + 1)
    · refine xo_t c1 (xo_g M2.y.1 (xo_b (FX9_profileOf_c M2 L (by omega)) (fun v1 h3 q3 => ?_)))
      obtain ⟨rfl, i3⟩ := q3
      have i3 : iw (rCl Y) h h3 := iW.trans i3 (fun _ q => q) (fun _ q => q)
      have M3 := M.iw i3 ap
      have M3' := M'.iw i3 ap
      refine xo_g M3.y.1 (xo_b (FX9_profileOf_c M3' L' (by omega)) (fun v1 h4 q4 => ?_))
      obtain ⟨rfl, i4⟩ := q4
      have i4 : iw (rCl Y) h h4 := i3.trans i4 (fun _ q => q) (fun _ q => q)
      by_cases c2 : coS d (i + 1) = coS e (i + 1)
      · refine xo_t c2 ?_
        rw [nI_s]
        refine again hlt _ _ ⟨rfl, i4, fun j hj => ?_⟩
        by_cases ej : j = i
        · subst ej; exact ⟨c1, c2⟩
        · exact hall j (by omega)
      · exact xo_f c2 (xo_g (Or.inl rfl) (xo_v ⟨hno hlt (Or.inr c2), i4⟩))
    · exact xo_f c1 (xo_g (Or.inl rfl) (xo_v ⟨hno hlt (Or.inl c1), iW⟩))
theorem FX9_large_v (M : YM h Y m u l d) (gd : GD d) {x y : Nat} (hx : x < dnu d * dnl d) (hy : y < dnu d * dnl d) : FX9_large E Y (nI m) (nI x) (nI y) h = xv (nI (lpS d x y)) h := by
  have w := M.wd gd
  have w2 := w
  obtain ⟨⟨w1, w2, w3, w4⟩, w5, w6, w7, w8, w9, w10⟩ := w2
  have q1 := lg_hi w hx
  have q2 := lg_hi w hy
  have q3 := lg_lo w x
  have q4 := lg_lo w y
  have q5 := w10 _ _ q3 q2
  have h64 := lg_64 w
  have hc : ¬ dnl d = 0 := by omega
  unfold FX9_large
  simp (disch := omega) only [↓xg, ↓reduceIte, ↓xjn_d, ↓xlt_d, eq_self, and_self, and_true, true_and, not_true, not_false_iff, ne_eq, true_or, or_true, or_false, false_or, nI_s, nI_leP, nI_eqP, M.y.1, ↓xb_eq (FX9_lowers_v M), nI_eq0, hc, rem_nI, div_nI, ↓xb_eq (FX9_on_v M q3 q2), ↓xb_eq (FX9_up_v M q1 q5), ↓xb_eq (FX9_down_v M q3 q4), nI_m, nI_a]
  rfl
theorem FX9_targetOf_v (M : YM h Y m u l d) (gd : GD d) {x : Nat} (hx : x < dnu d * dnl d) : FX9_targetOf E Y (nI m) (nI x) h = xv (nI (tgS d (x / dnl d) (x % dnl d))) h := by
  have w := M.wd gd
  have w2 := w
  obtain ⟨⟨w1, w2, w3, w4⟩, w5, w6, w7, w8, w9, w10⟩ := w2
  have q1 := lg_hi w hx
  have q3 := lg_lo w x
  have h64 := lg_64 w
  have hc : ¬ dnl d = 0 := by omega
  unfold FX9_targetOf
  simp (disch := omega) only [↓xg, ↓reduceIte, ↓xjn_d, ↓xlt_d, eq_self, and_self, and_true, true_and, not_true, not_false_iff, ne_eq, true_or, or_true, or_false, false_or, nI_s, nI_leP, nI_eqP, M.y.1, ↓xb_eq (FX9_lowers_v M), nI_eq0, hc, rem_nI, div_nI, ↓xb_eq (FX9_boundaryOf_v M q1), ↓xb_eq (FX9_down_v M (w9 _ q1) q3)]
  rfl
-- arrows
theorem YA.y (A : YA h Y a m u l o v k d e tp bt) : YL h Y := A.2.1.1.y
theorem YA.iw {h' : XH} {B : Nat → Prop} (A : YA h Y a m u l o v k d e tp bt) (w : iw B h h') (hB : ∀ a, B a → a < Y + 1 ∨ Y + 8 < a) : YA h' Y a m u l o v k d e tp bt := by
  refine ⟨⟨A.1.1, ?_, ?_⟩, ⟨A.2.1.1.iw w hB, A.2.1.2.iw w hB⟩, fun x hx => ?_, fun g hg => ?_⟩
  · rw [w.i _ (fun q => by have := hB _ q; omega)]; exact A.1.2.1
  · rw [w.i _ (fun q => by have := hB _ q; omega)]; exact A.1.2.2
  · rw [w.i _ (fun q => by have := hB _ q; omega)]; exact A.2.2.1 x hx
  · rw [w.i _ (fun q => by have := hB _ q; omega)]; exact A.2.2.2 g hg
theorem FX9_topOf_v (A : YA h Y a m u l o v k d e tp bt) {x : Nat} (hx : x < dnu d) : FX9_topOf E Y (nI a) (nI x) h = xv (nI (tp x)) h := by
  have y := A.y
  have h8 := A.1.1
  have w := A.2.1.1.wu
  have e := (A.2.2.1 x hx).1
  unfold FX9_topOf
  simp (disch := omega) only [↓xg, ↓reduceIte, ↓xjn_d, ↓xlt_d, eq_self, and_self, and_true, true_and, not_true, not_false_iff, ne_eq, true_or, or_true, or_false, false_or, nI_s, nI_leP, nI_eqP, y.1, ↓xnn_e (y.r8), y.k8, y.n8, li8, li432, nI_m, nI_a, xin_t, xz_nI, e]
theorem FX9_bottomOf_v (A : YA h Y a m u l o v k d e tp bt) {x : Nat} (hx : x < dnl d) : FX9_bottomOf E Y (nI a) (nI x) h = xv (nI (bt x)) h := by
  have y := A.y
  have h8 := A.1.1
  have w := A.2.1.1.wu
  have e := (A.2.2.2 x hx).1
  unfold FX9_bottomOf
  simp (disch := omega) only [↓xg, ↓reduceIte, ↓xjn_d, ↓xlt_d, eq_self, and_self, and_true, true_and, not_true, not_false_iff, ne_eq, true_or, or_true, or_false, false_or, nI_s, nI_leP, nI_eqP, y.1, ↓xnn_e (y.r8), y.k8, y.n8, li8, li496, nI_m, nI_a, xin_t, xz_nI, e]
theorem YA.r5 (A : YA h Y a m u l o v k d e tp bt) : xi h (Y + 5) (nI a).toNatClampNeg = nI m := by
  have := A.1.1
  rw [xz_nI (by omega)]; exact A.1.2.1
theorem YA.r6 (A : YA h Y a m u l o v k d e tp bt) : xi h (Y + 6) (nI a).toNatClampNeg = nI o := by
  have := A.1.1
  rw [xz_nI (by omega)]; exact A.1.2.2
theorem FX9_bT (A : YA h Y a m u l o v k d e tp bt) (gd : GD d) (ge : GD e) : FX9_breaksTops E Y (nI a) h = xv (bI (kpS (dnu d) (dtu d) (dtu e) tp)) h := by
  obtain ⟨⟨w1, w2, w3, w4⟩, w5, w6, w7, w8, w9, w10⟩ := A.2.1.1.wd gd
  have w' := A.2.1.2.wd ge
  have y := A.y
  have h8 := A.1.1
  have M := A.2.1.1
  have M' := A.2.1.2
  unfold FX9_breaksTops
  (try dsimp only); (rw [xg_t (y.1), xnn_e (y.r5), xg_t (y.g5 h8), xlt_d, xg_t (y.1), xnn_e (y.r6), xg_t (y.g6 h8), xlt_d, A.r5, A.r6])
  refine (xlp_any (fun i => nI i) h (dnu d) (fun i => anyB (dnu d) fun k => tp (dtu d i k) != dtu e (tp i) (tp k)) (R1 := xv 1 h) (R2 := xv 0 h) (by omega) (fun i hi ag => ?_) (fun ag => ?_)).trans ?_
  · (try dsimp only); (rw [xg_t (y.1), xb_eq (FX9_uppers_v M), if_neg (nI_ge hi (by omega))])
    refine xlp_any (fun i => nI i) h (dnu d) (fun k => tp (dtu d i k) != dtu e (tp i) (tp k)) (by omega) (fun k hk ag' => ?_) (fun ag' => ?_)
    · have hc2 : ¬ dnu d ≤ k := by omega
      have q1 := w5 i k hi hk
      have q2 := (A.2.2.1 _ q1).2
      have q3 := (A.2.2.1 i hi).2
      have q4 := (A.2.2.1 k hk).2
      have q5 := w'.2.1 _ _ q3 q4
      have q6 := w'.1.2.1
      simp (disch := omega) only [↓xg, ↓reduceIte, ↓xjn_d, ↓xlt_d, eq_self, and_self, and_true, true_and, not_true, not_false_iff, ne_eq, true_or, or_true, or_false, false_or, nI_s, nI_leP, nI_eqP, y.1, ↓xb_eq (FX9_uppers_v M), hc2, ↓xb_eq (FX9_up_v M hi hk), ↓xb_eq (FX9_topOf_v A q1), ↓xb_eq (FX9_topOf_v A hi), ↓xb_eq (FX9_topOf_v A hk), ↓xb_eq (FX9_up_v M' q3 q4), ite_bne]
    · simp (disch := omega) only [↓xg, ↓reduceIte, ↓xjn_d, ↓xlt_d, eq_self, and_self, and_true, true_and, not_true, not_false_iff, ne_eq, true_or, or_true, or_false, false_or, nI_s, nI_leP, nI_eqP, y.1, ↓xb_eq (FX9_uppers_v M), Int32.le_refl]
  · simp (disch := omega) only [↓xg, ↓reduceIte, ↓xjn_d, ↓xlt_d, eq_self, and_self, and_true, true_and, not_true, not_false_iff, ne_eq, true_or, or_true, or_false, false_or, nI_s, nI_leP, nI_eqP, y.1, ↓xb_eq (FX9_uppers_v M), Int32.le_refl]
  · unfold kpS; cases anyB (dnu d) _ <;> rfl
theorem FX9_bBo (A : YA h Y a m u l o v k d e tp bt) (gd : GD d) (ge : GD e) : FX9_breaksBottoms E Y (nI a) h = xv (bI (kpS (dnl d) (dtl d) (dtl e) bt)) h := by
  obtain ⟨⟨w1, w2, w3, w4⟩, w5, w6, w7, w8, w9, w10⟩ := A.2.1.1.wd gd
  have w' := A.2.1.2.wd ge
  have y := A.y
  have h8 := A.1.1
  have M := A.2.1.1
  have M' := A.2.1.2
  unfold FX9_breaksBottoms
  (try dsimp only); (rw [xg_t (y.1), xnn_e (y.r5), xg_t (y.g5 h8), xlt_d, xg_t (y.1), xnn_e (y.r6), xg_t (y.g6 h8), xlt_d, A.r5, A.r6])
  refine (xlp_any (fun i => nI i) h (dnl d) (fun i => anyB (dnl d) fun k => bt (dtl d i k) != dtl e (bt i) (bt k)) (R1 := xv 1 h) (R2 := xv 0 h) (by omega) (fun i hi ag => ?_) (fun ag => ?_)).trans ?_
  · (try dsimp only); (rw [xg_t (y.1), xb_eq (FX9_lowers_v M), if_neg (nI_ge hi (by omega))])
    refine xlp_any (fun i => nI i) h (dnl d) (fun k => bt (dtl d i k) != dtl e (bt i) (bt k)) (by omega) (fun k hk ag' => ?_) (fun ag' => ?_)
    · have hc2 : ¬ dnl d ≤ k := by omega
      have q1 := w7 i k hi hk
      have q2 := (A.2.2.2 _ q1).2
      have q3 := (A.2.2.2 i hi).2
      have q4 := (A.2.2.2 k hk).2
      have q5 := w'.2.2.2.1 _ _ q3 q4
      have q6 := w'.1.2.2.2
      simp (disch := omega) only [↓xg, ↓reduceIte, ↓xjn_d, ↓xlt_d, eq_self, and_self, and_true, true_and, not_true, not_false_iff, ne_eq, true_or, or_true, or_false, false_or, nI_s, nI_leP, nI_eqP, y.1, ↓xb_eq (FX9_lowers_v M), hc2, ↓xb_eq (FX9_down_v M hi hk), ↓xb_eq (FX9_bottomOf_v A q1), ↓xb_eq (FX9_bottomOf_v A hi), ↓xb_eq (FX9_bottomOf_v A hk), ↓xb_eq (FX9_down_v M' q3 q4), ite_bne]
    · simp (disch := omega) only [↓xg, ↓reduceIte, ↓xjn_d, ↓xlt_d, eq_self, and_self, and_true, true_and, not_true, not_false_iff, ne_eq, true_or, or_true, or_false, false_or, nI_s, nI_leP, nI_eqP, y.1, ↓xb_eq (FX9_lowers_v M), Int32.le_refl]
  · simp (disch := omega) only [↓xg, ↓reduceIte, ↓xjn_d, ↓xlt_d, eq_self, and_self, and_true, true_and, not_true, not_false_iff, ne_eq, true_or, or_true, or_false, false_or, nI_s, nI_leP, nI_eqP, y.1, ↓xb_eq (FX9_lowers_v M), Int32.le_refl]
  · unfold kpS; cases anyB (dnl d) _ <;> rfl
theorem FX9_bS (A : YA h Y a m u l o v k d e tp bt) (gd : GD d) (ge : GD e) : FX9_breaksSquare E Y (nI a) h = xv (bI (a4S d e tp bt)) h := by
  obtain ⟨⟨w1, w2, w3, w4⟩, w5, w6, w7, w8, w9, w10⟩ := A.2.1.1.wd gd
  have w' := A.2.1.2.wd ge
  have y := A.y
  have h8 := A.1.1
  have M := A.2.1.1
  have M' := A.2.1.2
  have u5 : FX9_uppers E Y (xi h (Y + 5) (nI a).toNatClampNeg) h = xv (nI (dnu d)) h := by rw [A.r5]; exact FX9_uppers_v M
  unfold FX9_breaksSquare
  refine (xlp_any (fun i => nI i) h (dnu d) (fun x => dbd e (tp x) != bt (dbd d x)) (R1 := xv 1 h) (R2 := xv 0 h) (by omega) (fun x hx ag => ?_) (fun ag => ?_)).trans ?_
  · have hc : ¬ dnu d ≤ x := by omega
    have q1 := (A.2.2.1 x hx).2
    have q2 := w9 x hx
    have q3 := (A.2.2.2 _ q2).2
    have q4 := w'.2.2.2.2.2.1 _ q1
    have q6 := w'.1.2.2.2
    have b6 : FX9_boundaryOf E Y (xi h (Y + 6) (nI a).toNatClampNeg) (nI (tp x)) h = xv (nI (dbd e (tp x))) h := by rw [A.r6]; exact FX9_boundaryOf_v M' q1
    have b5 : FX9_boundaryOf E Y (xi h (Y + 5) (nI a).toNatClampNeg) (nI x) h = xv (nI (dbd d x)) h := by rw [A.r5]; exact FX9_boundaryOf_v M hx
    (try dsimp only); (rw [xg_t (y.1), xnn_e (y.r5), xg_t (y.g5 h8), xg_t (y.1), xb_eq (u5), if_neg (nI_ge hx (by omega)), xg_t (y.1), xnn_e (y.r6), xg_t (y.g6 h8), xg_t (y.1), xb_eq (FX9_topOf_v A hx), xg_t (y.1), xb_eq (b6), xg_t (y.1), xnn_e (y.r5), xg_t (y.g5 h8), xg_t (y.1), xb_eq (b5), xg_t (y.1), xb_eq (FX9_bottomOf_v A q2)])
    simp (disch := omega) only [↓xg, ↓reduceIte, ↓xjn_d, ↓xlt_d, eq_self, and_self, and_true, true_and, not_true, not_false_iff, ne_eq, true_or, or_true, or_false, false_or, nI_s, nI_leP, nI_eqP, ite_bne]
  · (try dsimp only); (rw [xg_t (y.1), xnn_e (y.r5), xg_t (y.g5 h8), xg_t (y.1), xb_eq (u5), if_pos (Int32.le_refl _), xg_t (Or.inl rfl)])
  · unfold a4S; cases anyB (dnu d) _ <;> rfl
theorem FX9_bO (A : YA h Y a m u l o v k d e tp bt) (gd : GD d) (ge : GD e) : FX9_breaksOn E Y (nI a) h = xv (bI (a5S d e tp bt)) h := by
  obtain ⟨⟨w1, w2, w3, w4⟩, w5, w6, w7, w8, w9, w10⟩ := A.2.1.1.wd gd
  have w' := A.2.1.2.wd ge
  have y := A.y
  have h8 := A.1.1
  have M := A.2.1.1
  have M' := A.2.1.2
  have u5 : FX9_uppers E Y (xi h (Y + 5) (nI a).toNatClampNeg) h = xv (nI (dnu d)) h := by rw [A.r5]; exact FX9_uppers_v M
  have l5 : FX9_lowers E Y (xi h (Y + 5) (nI a).toNatClampNeg) h = xv (nI (dnl d)) h := by rw [A.r5]; exact FX9_lowers_v M
  unfold FX9_breaksOn
  refine (xlp_any (fun i => nI i) h (dnl d) (fun g => anyB (dnu d) fun x => tp (dac d g x) != dac e (bt g) (tp x)) (R1 := xv 1 h) (R2 := xv 0 h) (by omega) (fun g hg ag => ?_) (fun ag => ?_)).trans ?_
  · have hc : ¬ dnl d ≤ g := by omega
    (try dsimp only); (rw [xg_t (y.1), xnn_e (y.r5), xg_t (y.g5 h8), xg_t (y.1), xb_eq (l5), if_neg (nI_ge hg (by omega))])
    refine xlp_any (fun i => nI i) h (dnu d) (fun x => tp (dac d g x) != dac e (bt g) (tp x)) (by omega) (fun x hx ag' => ?_) (fun ag' => ?_)
    · have hc2 : ¬ dnu d ≤ x := by omega
      have q1 := w10 g x hg hx
      have q2 := (A.2.2.1 _ q1).2
      have q3 := (A.2.2.2 g hg).2
      have q4 := (A.2.2.1 x hx).2
      have q5 := w'.2.2.2.2.2.2 _ _ q3 q4
      have q6 := w'.1.2.1
      have o5 : FX9_on E Y (xi h (Y + 5) (nI a).toNatClampNeg) (nI g) (nI x) h = xv (nI (dac d g x)) h := by rw [A.r5]; exact FX9_on_v M hg hx
      have o6 : FX9_on E Y (xi h (Y + 6) (nI a).toNatClampNeg) (nI (bt g)) (nI (tp x)) h = xv (nI (dac e (bt g) (tp x))) h := by rw [A.r6]; exact FX9_on_v M' q3 q4
      (try dsimp only); (rw [xg_t (y.1), xnn_e (y.r5), xg_t (y.g5 h8), xg_t (y.1), xb_eq (u5), if_neg (nI_ge hx (by omega)), xg_t (y.1), xnn_e (y.r5), xg_t (y.g5 h8), xg_t (y.1), xb_eq (o5), xg_t (y.1), xb_eq (FX9_topOf_v A q1), xg_t (y.1), xnn_e (y.r6), xg_t (y.g6 h8), xg_t (y.1), xb_eq (FX9_bottomOf_v A hg), xg_t (y.1), xb_eq (FX9_topOf_v A hx), xg_t (y.1), xb_eq (o6)])
      simp (disch := omega) only [↓xg, ↓reduceIte, ↓xjn_d, ↓xlt_d, eq_self, and_self, and_true, true_and, not_true, not_false_iff, ne_eq, true_or, or_true, or_false, false_or, nI_s, nI_leP, nI_eqP, ite_bne]
    · (try dsimp only); (rw [xg_t (y.1), xnn_e (y.r5), xg_t (y.g5 h8), xg_t (y.1), xb_eq (u5), if_pos (Int32.le_refl _), nI_s])
  · (try dsimp only); (rw [xg_t (y.1), xnn_e (y.r5), xg_t (y.g5 h8), xg_t (y.1), xb_eq (l5), if_pos (Int32.le_refl _), xg_t (Or.inl rfl)])
  · unfold a5S; cases anyB (dnl d) _ <;> rfl
theorem FX9_whyArrow_v (A : YA h Y a m u l o v k d e tp bt) (gd : GD d) (ge : GD e) : FX9_whyArrow E Y (nI a) h = xv (nI (arS d e tp bt)) h := by
  have y := A.y
  have h8 := A.1.1
  have M := A.2.1.1
  have M' := A.2.1.2
  have h1 := whyS_le d
  have h2 := whyS_le e
  have y5 : FX9_whyOf E Y (xi h (Y + 5) (nI a).toNatClampNeg) h = xv (nI (whyS d)) h := by rw [A.r5]; exact FX9_whyOf_v M gd
  have y6 : FX9_whyOf E Y (xi h (Y + 6) (nI a).toNatClampNeg) h = xv (nI (whyS e)) h := by rw [A.r6]; exact FX9_whyOf_v M' ge
  unfold FX9_whyArrow arS
  by_cases c1 : whyS d = 0
  · by_cases c2 : whyS e = 0
    · simp (disch := omega) only [↓xg, ↓reduceIte, ↓xjn_d, ↓xlt_d, eq_self, and_self, and_true, true_and, not_true, not_false_iff, ne_eq, true_or, or_true, or_false, false_or, nI_s, nI_leP, nI_eqP, y.1, ↓xnn_e (y.r5), ↓xnn_e (y.r6), y.k5, y.k6, y.n5, y.n6, xin_t, ↓xb_eq (y5), ↓xb_eq (y6), c1, c2, nI_eq0, ↓xb_eq (FX9_bT A gd ge), ↓xb_eq (FX9_bBo A gd ge), ↓xb_eq (FX9_bS A gd ge), ↓xb_eq (FX9_bO A gd ge), bI_eq0]
      cases kpS (dnu d) (dtu d) (dtu e) tp
      · cases kpS (dnl d) (dtl d) (dtl e) bt
        · cases a4S d e tp bt
          · cases a5S d e tp bt <;> rfl
          · rfl
        · rfl
      · rfl
    · simp (disch := omega) only [↓xg, ↓reduceIte, ↓xjn_d, ↓xlt_d, eq_self, and_self, and_true, true_and, not_true, not_false_iff, ne_eq, true_or, or_true, or_false, false_or, nI_s, nI_leP, nI_eqP, y.1, ↓xnn_e (y.r5), ↓xnn_e (y.r6), y.k5, y.k6, y.n5, y.n6, xin_t, ↓xb_eq (y5), ↓xb_eq (y6), c1, c2, nI_eq0]
      rfl
  · simp (disch := omega) only [↓xg, ↓reduceIte, ↓xjn_d, ↓xlt_d, eq_self, and_self, and_true, true_and, not_true, not_false_iff, ne_eq, true_or, or_true, or_false, false_or, nI_s, nI_leP, nI_eqP, y.1, ↓xnn_e (y.r5), y.k5, y.n5, xin_t, ↓xb_eq (y5), c1, nI_eq0]
    rfl
end YMS
