/-! What the class answers, out of its state. -/
set_option linter.unusedVariables false
section C8R
variable {E : XG} {h : XH} {X w s f : Nat} {Z : ZD}
theorem XI.bm (x : XI h X w s f Z) {m : Nat} (hm : m < snm (zS Z)) : m < 6 ∧ smu (zS Z) m < 6 ∧ sml (zS Z) m < 6 ∧ nuS (zS Z) m ≤ 8 ∧ nlS2 (zS Z) m ≤ 8 := by
  have W := x.ci.1.1
  obtain ⟨⟨a1, a2, a3⟩, a4, a5, a6⟩ := W
  obtain ⟨b1, b2⟩ := a5 m hm
  exact ⟨by omega, by omega, by omega, (a4 _ b1).1.2, (a4 _ b2).1.2⟩
theorem XI.ba (x : XI h X w s f Z) {a : Nat} (ha : a < sna (zS Z)) : a < 8 ∧ saf (zS Z) a < snm (zS Z) ∧ sao (zS Z) a < snm (zS Z) := by
  have W := x.ci.1.1
  obtain ⟨⟨a1, a2, a3⟩, a4, a5, a6⟩ := W
  exact ⟨by omega, (a6 a ha).1, (a6 a ha).2⟩
theorem c8_size (x : XI h X w s f Z) (hl : zld Z = true) {g : Nat} (hk : g < sng (zS Z)) : FX8_size E X (nI g) h = xv (nI (sgn (zS Z) g)) h := by
  have G := x.ci.2.1.gt x.ci.1.1 hk
  have bn := x.ci.1.1.1
  unfold FX8_size
  rw [xg_t (x.k), xb_eq (FX8_groupAt_v x hl hk), xg_t (G.1.1), G.2.1.1]
theorem c8_centre (x : XI h X w s f Z) (hl : zld Z = true) {g : Nat} (hk : g < sng (zS Z)) : FX8_centre E X (nI g) h = xv (cenS (sgn (zS Z) g) (sgt (zS Z) g)) h := by
  have G := x.ci.2.1.gt x.ci.1.1 hk
  have bn := x.ci.1.1.1
  unfold FX8_centre
  rw [xg_t (x.k), xb_eq (FX8_groupAt_v x hl hk), xg_t (G.1.1), xb_eq (FX2_middle_v G.1 G.2.1)]
theorem c8_inverse (x : XI h X w s f Z) (hl : zld Z = true) {g : Nat} (hk : g < sng (zS Z)) {a : Nat} (ha : a < sgn (zS Z) g) : FX8_inverse E X (nI g) (nI a) h = xv (nI (sgv (zS Z) g a)) h := by
  have G := x.ci.2.1.gt x.ci.1.1 hk
  have bn := x.ci.1.1.1
  unfold FX8_inverse
  simp (disch := omega) only [↓xg, ↓reduceIte, ↓xjn_d, ↓xlt_d, eq_self, and_self, and_true, true_and, not_true, not_false_iff, ne_eq, true_or, or_true, or_false, false_or, nI_s, nI_leP, nI_eqP, x.k, ↓xb_eq (FX8_groupAt_v x hl hk), G.1.1, ↓xb_eq (has_t G.1 G.2.1 ha), ↓dT0b, ↓dT1b, ↓dF0b, ↓dF1b, i1_0, ↓xb_eq (FX2_opposite_v G.1 G.2.2 G.2.1.2.2.1 ha)]
theorem c8_orderOf (x : XI h X w s f Z) (hl : zld Z = true) {g : Nat} (hk : g < sng (zS Z)) {a : Nat} (ha : a < sgn (zS Z) g) : FX8_orderOf E X (nI g) (nI a) h = xv (nI (odS (sgt (zS Z) g) a)) h := by
  have G := x.ci.2.1.gt x.ci.1.1 hk
  have bn := x.ci.1.1.1
  unfold FX8_orderOf
  simp (disch := omega) only [↓xg, ↓reduceIte, ↓xjn_d, ↓xlt_d, eq_self, and_self, and_true, true_and, not_true, not_false_iff, ne_eq, true_or, or_true, or_false, false_or, nI_s, nI_leP, nI_eqP, x.k, ↓xb_eq (FX8_groupAt_v x hl hk), G.1.1, ↓xb_eq (has_t G.1 G.2.1 ha), ↓dT0b, ↓dT1b, ↓dF0b, ↓dF1b, i1_0, ↓xb_eq (FX2_period_v G.1 G.2.1 ha)]
theorem c8_times (x : XI h X w s f Z) (hl : zld Z = true) {g : Nat} (hk : g < sng (zS Z)) {a b : Nat} (ha : a < sgn (zS Z) g) (hb : b < sgn (zS Z) g) : FX8_times E X (nI g) (nI a) (nI b) h = xv (nI (sgt (zS Z) g a b)) h := by
  have G := x.ci.2.1.gt x.ci.1.1 hk
  have bn := x.ci.1.1.1
  unfold FX8_times
  simp (disch := omega) only [↓xg, ↓reduceIte, ↓xjn_d, ↓xlt_d, eq_self, and_self, and_true, true_and, not_true, not_false_iff, ne_eq, true_or, or_true, or_false, false_or, nI_s, nI_leP, nI_eqP, x.k, ↓xb_eq (FX8_groupAt_v x hl hk), G.1.1, ↓xb_eq (has_t G.1 G.2.1 ha), ↓xb_eq (has_t G.1 G.2.1 hb), ↓dT0b, ↓dT1b, ↓dF0b, ↓dF1b, i1_0, ↓xb_eq (FX2_product_v G.1 G.2.1 ha hb)]
theorem c8_times1 (x : XI h X w s f Z) (hl : zld Z = true) {g : Nat} (hk : g < sng (zS Z)) {q : Int32} (hq : inr q (sgn (zS Z) g) = false) (r : Int32) : FX8_times E X (nI g) q r h = xx 1 h := by
  have G := x.ci.2.1.gt x.ci.1.1 hk
  have bn := x.ci.1.1.1
  unfold FX8_times
  simp (disch := omega) only [↓xg, ↓reduceIte, ↓xjn_d, ↓xlt_d, eq_self, and_self, and_true, true_and, not_true, not_false_iff, ne_eq, true_or, or_true, or_false, false_or, nI_s, nI_leP, nI_eqP, x.k, ↓xb_eq (FX8_groupAt_v x hl hk), G.1.1, ↓xb_eq (has_f G.1 G.2.1 hq), ↓dT0b, ↓dT1b, ↓dF0b, ↓dF1b, i1_0]
theorem c8_kernel (x : XI h X w s f Z) (hl : zld Z = true) {m : Nat} (hk : m < snm (zS Z)) : FX8_kernel E X (nI m) h = xv (kerS (mdS (zS Z) (zT Z) m)) h := by
  have C := x.ci.cm hk
  have gd := x.ci.gd hk
  have wd := x.ci.wd hk
  have bm := x.bm hk
  have bn := x.ci.1.1.1
  have l8 : dnl (mdS (zS Z) (zT Z) m) ≤ 8 := bm.2.2.2.2
  have u8 : dnu (mdS (zS Z) (zT Z) m) ≤ 8 := bm.2.2.2.1
  unfold FX8_kernel
  simp (disch := omega) only [↓xg, ↓reduceIte, ↓xjn_d, ↓xlt_d, eq_self, and_self, and_true, true_and, not_true, not_false_iff, ne_eq, true_or, or_true, or_false, false_or, nI_s, nI_leP, nI_eqP, x.k, ↓xb_eq (FX8_moduleAt_v x hl hk), C.k, ↓xb_eq (FX1_kernelSet_v C)]
theorem c8_image (x : XI h X w s f Z) (hl : zld Z = true) {m : Nat} (hk : m < snm (zS Z)) : FX8_image E X (nI m) h = xv (imgS (mdS (zS Z) (zT Z) m)) h := by
  have C := x.ci.cm hk
  have gd := x.ci.gd hk
  have wd := x.ci.wd hk
  have bm := x.bm hk
  have bn := x.ci.1.1.1
  have l8 : dnl (mdS (zS Z) (zT Z) m) ≤ 8 := bm.2.2.2.2
  have u8 : dnu (mdS (zS Z) (zT Z) m) ≤ 8 := bm.2.2.2.1
  unfold FX8_image
  simp (disch := omega) only [↓xg, ↓reduceIte, ↓xjn_d, ↓xlt_d, eq_self, and_self, and_true, true_and, not_true, not_false_iff, ne_eq, true_or, or_true, or_false, false_or, nI_s, nI_leP, nI_eqP, x.k, ↓xb_eq (FX8_moduleAt_v x hl hk), C.k, ↓xb_eq (FX1_imageSet_v C)]
theorem c8_why (x : XI h X w s f Z) (hl : zld Z = true) {m : Nat} (hk : m < snm (zS Z)) : FX8_why E X (nI m) h = xv (nI (whS (zS Z) (zT Z) m)) h := by
  have C := x.ci.cm hk
  have gd := x.ci.gd hk
  have wd := x.ci.wd hk
  have bm := x.bm hk
  have bn := x.ci.1.1.1
  have l8 : dnl (mdS (zS Z) (zT Z) m) ≤ 8 := bm.2.2.2.2
  have u8 : dnu (mdS (zS Z) (zT Z) m) ≤ 8 := bm.2.2.2.1
  unfold FX8_why
  simp (disch := omega) only [↓xg, ↓reduceIte, ↓xjn_d, ↓xlt_d, eq_self, and_self, and_true, true_and, not_true, not_false_iff, ne_eq, true_or, or_true, or_false, false_or, nI_s, nI_leP, nI_eqP, x.k, ↓xb_eq (FX8_moduleAt_v x hl hk), C.k, x.re hk]
theorem c8_why1 (x : XI h X w s f Z) (hl : zld Z = true) {p : Int32} (hp : inr p (snm (zS Z)) = false) : FX8_why E X p h = xx 1 h := by
  unfold FX8_why
  rw [xg_t x.k, FX8_moduleAt_1 x hl hp]
  rfl
theorem c8_why0 (x : XI h X w s f Z) (hl : zld Z = false) (p : Int32) : FX8_why E X p h = xx 0 h := by
  unfold FX8_why
  rw [xg_t x.k, FX8_moduleAt_0 x hl]
  rfl
theorem c8_groupOf0 (x : XI h X w s f Z) (hl : zld Z = true) {m : Nat} (hk : m < snm (zS Z)) : FX8_groupOf E X (nI m) 0 h = xv (nI (smu (zS Z) m)) h := by
  have C := x.ci.cm hk
  have gd := x.ci.gd hk
  have wd := x.ci.wd hk
  have bm := x.bm hk
  have bn := x.ci.1.1.1
  have l8 : dnl (mdS (zS Z) (zT Z) m) ≤ 8 := bm.2.2.2.2
  have u8 : dnu (mdS (zS Z) (zT Z) m) ≤ 8 := bm.2.2.2.1
  have nu : xi h (w + 14 + 3 * smu (zS Z) m) 0 = nI (smu (zS Z) m) := x.ci.2.1.1.2.1 _ (by omega)
  unfold FX8_groupOf
  simp (disch := omega) only [↓xg, ↓reduceIte, ↓xjn_d, ↓xlt_d, eq_self, and_self, and_true, true_and, not_true, not_false_iff, ne_eq, true_or, or_true, or_false, false_or, nI_s, nI_leP, nI_eqP, x.k, ↓xb_eq (FX8_moduleAt_v x hl hk), C.k, ↓xnn_e (C.u), C.uk, nu]
theorem c8_groupOf1 (x : XI h X w s f Z) (hl : zld Z = true) {m : Nat} (hk : m < snm (zS Z)) : FX8_groupOf E X (nI m) 1 h = xv (nI (sml (zS Z) m)) h := by
  have C := x.ci.cm hk
  have gd := x.ci.gd hk
  have wd := x.ci.wd hk
  have bm := x.bm hk
  have bn := x.ci.1.1.1
  have l8 : dnl (mdS (zS Z) (zT Z) m) ≤ 8 := bm.2.2.2.2
  have u8 : dnu (mdS (zS Z) (zT Z) m) ≤ 8 := bm.2.2.2.1
  have nl : xi h (w + 14 + 3 * sml (zS Z) m) 0 = nI (sml (zS Z) m) := x.ci.2.1.1.2.1 _ (by omega)
  have hq : ¬ (1 : Int32) = 0 := by decide
  unfold FX8_groupOf
  simp (disch := omega) only [↓xg, ↓reduceIte, ↓xjn_d, ↓xlt_d, eq_self, and_self, and_true, true_and, not_true, not_false_iff, ne_eq, true_or, or_true, or_false, false_or, nI_s, nI_leP, nI_eqP, x.k, ↓xb_eq (FX8_moduleAt_v x hl hk), hq, C.k, ↓xnn_e (C.l), C.lk, nl]
theorem c8_fixed (x : XI h X w s f Z) (hl : zld Z = true) {m : Nat} (hk : m < snm (zS Z)) {a : Nat} (ha : a < nuS (zS Z) m) : FX8_fixed E X (nI m) (nI a) h = xv (fixS (mdS (zS Z) (zT Z) m) a) h := by
  have C := x.ci.cm hk
  have gd := x.ci.gd hk
  have wd := x.ci.wd hk
  have bm := x.bm hk
  have bn := x.ci.1.1.1
  have l8 : dnl (mdS (zS Z) (zT Z) m) ≤ 8 := bm.2.2.2.2
  have u8 : dnu (mdS (zS Z) (zT Z) m) ≤ 8 := bm.2.2.2.1
  unfold FX8_fixed
  simp (disch := omega) only [↓xg, ↓reduceIte, ↓xjn_d, ↓xlt_d, eq_self, and_self, and_true, true_and, not_true, not_false_iff, ne_eq, true_or, or_true, or_false, false_or, nI_s, nI_leP, nI_eqP, x.k, ↓xb_eq (FX8_moduleAt_v x hl hk), C.k, ↓xnn_e (C.u), C.uk, ↓xb_eq (has_t C.2.2.1.1 C.2.2.1.2.1 ha), ↓dT0b, ↓dT1b, ↓dF0b, ↓dF1b, i1_0, ↓xb_eq (FX1_stabilizer_v C ha)]
theorem c8_orbit (x : XI h X w s f Z) (hl : zld Z = true) {m : Nat} (hk : m < snm (zS Z)) {a : Nat} (ha : a < nuS (zS Z) m) : FX8_orbit E X (nI m) (nI a) h = xv (orbS (mdS (zS Z) (zT Z) m) a) h := by
  have C := x.ci.cm hk
  have gd := x.ci.gd hk
  have wd := x.ci.wd hk
  have bm := x.bm hk
  have bn := x.ci.1.1.1
  have l8 : dnl (mdS (zS Z) (zT Z) m) ≤ 8 := bm.2.2.2.2
  have u8 : dnu (mdS (zS Z) (zT Z) m) ≤ 8 := bm.2.2.2.1
  unfold FX8_orbit
  simp (disch := omega) only [↓xg, ↓reduceIte, ↓xjn_d, ↓xlt_d, eq_self, and_self, and_true, true_and, not_true, not_false_iff, ne_eq, true_or, or_true, or_false, false_or, nI_s, nI_leP, nI_eqP, x.k, ↓xb_eq (FX8_moduleAt_v x hl hk), C.k, ↓xnn_e (C.u), C.uk, ↓xb_eq (has_t C.2.2.1.1 C.2.2.1.2.1 ha), ↓dT0b, ↓dT1b, ↓dF0b, ↓dF1b, i1_0, ↓xb_eq (FX1_orbitSet_v C ha)]
theorem c8_isCentral (x : XI h X w s f Z) (hl : zld Z = true) {m : Nat} (hk : m < snm (zS Z)) : FX8_isCentral E X (nI m) h = xv (if (kerS (mdS (zS Z) (zT Z) m) &&& (cenS (nuS (zS Z) m) (sgt (zS Z) (smu (zS Z) m)) ^^^ (-1))) = 0 then 1 else 0) h := by
  have C := x.ci.cm hk
  have gd := x.ci.gd hk
  have wd := x.ci.wd hk
  have bm := x.bm hk
  have bn := x.ci.1.1.1
  have l8 : dnl (mdS (zS Z) (zT Z) m) ≤ 8 := bm.2.2.2.2
  have u8 : dnu (mdS (zS Z) (zT Z) m) ≤ 8 := bm.2.2.2.1
  have e2 : FX2_middle E (w + 14 + 3 * smu (zS Z) m) h = xv (cenS (nuS (zS Z) m) (sgt (zS Z) (smu (zS Z) m))) h := FX2_middle_v C.2.2.1.1 C.2.2.1.2.1
  unfold FX8_isCentral
  by_cases hz : (kerS (mdS (zS Z) (zT Z) m) &&& (cenS (nuS (zS Z) m) (sgt (zS Z) (smu (zS Z) m)) ^^^ (-1))) = 0
  · simp (disch := omega) only [↓xg, ↓reduceIte, ↓xjn_d, ↓xlt_d, eq_self, and_self, and_true, true_and, not_true, not_false_iff, ne_eq, true_or, or_true, or_false, false_or, nI_s, nI_leP, nI_eqP, x.k, ↓xb_eq (FX8_moduleAt_v x hl hk), C.k, ↓xb_eq (FX1_kernelSet_v C), ↓xnn_e (C.u), C.uk, ↓xb_eq (e2), hz]
  · simp (disch := omega) only [↓xg, ↓reduceIte, ↓xjn_d, ↓xlt_d, eq_self, and_self, and_true, true_and, not_true, not_false_iff, ne_eq, true_or, or_true, or_false, false_or, nI_s, nI_leP, nI_eqP, x.k, ↓xb_eq (FX8_moduleAt_v x hl hk), C.k, ↓xb_eq (FX1_kernelSet_v C), ↓xnn_e (C.u), C.uk, ↓xb_eq (e2), hz]
theorem c8_boundary (x : XI h X w s f Z) (hl : zld Z = true) {m : Nat} (hk : m < snm (zS Z)) {a : Nat} (ha : a < nuS (zS Z) m) : FX8_boundary E X (nI m) (nI a) h = xv (nI (tbd (zT Z) m a)) h := by
  have C := x.ci.cm hk
  have gd := x.ci.gd hk
  have wd := x.ci.wd hk
  have bm := x.bm hk
  have bn := x.ci.1.1.1
  have l8 : dnl (mdS (zS Z) (zT Z) m) ≤ 8 := bm.2.2.2.2
  have u8 : dnu (mdS (zS Z) (zT Z) m) ≤ 8 := bm.2.2.2.1
  unfold FX8_boundary
  simp (disch := omega) only [↓xg, ↓reduceIte, ↓xjn_d, ↓xlt_d, eq_self, and_self, and_true, true_and, not_true, not_false_iff, ne_eq, true_or, or_true, or_false, false_or, nI_s, nI_leP, nI_eqP, x.k, ↓xb_eq (FX8_moduleAt_v x hl hk), C.k, ↓xnn_e (C.u), C.uk, ↓xb_eq (has_t C.2.2.1.1 C.2.2.1.2.1 ha), ↓dT0b, ↓dT1b, ↓dF0b, ↓dF1b, i1_0, ↓xb_eq (C.bd ha)]
  rfl
theorem c8_act (x : XI h X w s f Z) (hl : zld Z = true) {m : Nat} (hk : m < snm (zS Z)) {g a : Nat} (hg : g < nlS2 (zS Z) m) (ha : a < nuS (zS Z) m) : FX8_act E X (nI m) (nI g) (nI a) h = xv (nI (tac (zT Z) m g a)) h := by
  have C := x.ci.cm hk
  have gd := x.ci.gd hk
  have wd := x.ci.wd hk
  have bm := x.bm hk
  have bn := x.ci.1.1.1
  have l8 : dnl (mdS (zS Z) (zT Z) m) ≤ 8 := bm.2.2.2.2
  have u8 : dnu (mdS (zS Z) (zT Z) m) ≤ 8 := bm.2.2.2.1
  unfold FX8_act
  simp (disch := omega) only [↓xg, ↓reduceIte, ↓xjn_d, ↓xlt_d, eq_self, and_self, and_true, true_and, not_true, not_false_iff, ne_eq, true_or, or_true, or_false, false_or, nI_s, nI_leP, nI_eqP, x.k, ↓xb_eq (FX8_moduleAt_v x hl hk), C.k, ↓xnn_e (C.l), C.lk, ↓xnn_e (C.u), C.uk, ↓xb_eq (has_t C.2.2.2.1.1 C.2.2.2.1.2.1 hg), ↓xb_eq (has_t C.2.2.1.1 C.2.2.1.2.1 ha), ↓dT0b, ↓dT1b, ↓dF0b, ↓dF1b, i1_0, ↓xb_eq (C.ac hg ha)]
  rfl
theorem c8_top (x : XI h X w s f Z) (hl : zld Z = true) {a : Nat} (hk : a < sna (zS Z)) {b : Nat} (hb : b < nuS (zS Z) (saf (zS Z) a)) : FX8_top E X (nI a) (nI b) h = xv (nI (ttp (zT Z) a b)) h := by
  have C := x.ci.ca hk
  have ba := x.ba hk
  have bm := x.bm ba.2.1
  have bo := x.bm ba.2.2
  have gd := x.ci.gd ba.2.1
  have ge := x.ci.gd ba.2.2
  have bn := x.ci.1.1.1
  unfold FX8_top
  simp (disch := omega) only [↓xg, ↓reduceIte, ↓xjn_d, ↓xlt_d, eq_self, and_self, and_true, true_and, not_true, not_false_iff, ne_eq, true_or, or_true, or_false, false_or, nI_s, nI_leP, nI_eqP, x.k, ↓xb_eq (FX8_arrowAt_v x hl hk), C.k, ↓xnn_e (C.f), C.cf.k, ↓xnn_e (C.cf.u), C.cf.uk, ↓xb_eq (has_t C.cf.2.2.1.1 C.cf.2.2.1.2.1 hb), ↓dT0b, ↓dT1b, ↓dF0b, ↓dF1b, i1_0, ↓xb_eq (C.tpv hb)]
theorem c8_bottom (x : XI h X w s f Z) (hl : zld Z = true) {a : Nat} (hk : a < sna (zS Z)) {b : Nat} (hb : b < nlS2 (zS Z) (saf (zS Z) a)) : FX8_bottom E X (nI a) (nI b) h = xv (nI (tbt (zT Z) a b)) h := by
  have C := x.ci.ca hk
  have ba := x.ba hk
  have bm := x.bm ba.2.1
  have bo := x.bm ba.2.2
  have gd := x.ci.gd ba.2.1
  have ge := x.ci.gd ba.2.2
  have bn := x.ci.1.1.1
  unfold FX8_bottom
  simp (disch := omega) only [↓xg, ↓reduceIte, ↓xjn_d, ↓xlt_d, eq_self, and_self, and_true, true_and, not_true, not_false_iff, ne_eq, true_or, or_true, or_false, false_or, nI_s, nI_leP, nI_eqP, x.k, ↓xb_eq (FX8_arrowAt_v x hl hk), C.k, ↓xnn_e (C.f), C.cf.k, ↓xnn_e (C.cf.l), C.cf.lk, ↓xb_eq (has_t C.cf.2.2.2.1.1 C.cf.2.2.2.1.2.1 hb), ↓dT0b, ↓dT1b, ↓dF0b, ↓dF1b, i1_0, ↓xb_eq (C.btv hb)]
theorem c8_arrowWhy1 (x : XI h X w s f Z) (hl : zld Z = true) {p : Int32} (hp : inr p (sna (zS Z)) = false) : FX8_arrowWhy E X p h = xx 1 h := by
  unfold FX8_arrowWhy
  rw [xg_t x.k, FX8_arrowAt_1 x hl hp]
  rfl
theorem c8_account (x : XI h X w s f Z) (hl : zld Z = true) {k : Nat} (hk : k < 3) : FX8_account E X (nI k) h = xv (tcc (zT Z) k) h := by
  have c1 : ¬ nI k < (0 : Int32) := by rw [nI_lt0 (by omega)]; exact id
  have c2 : ¬ 3 ≤ k := by omega
  unfold FX8_account
  simp (disch := omega) only [↓xg, ↓reduceIte, ↓xjn_d, ↓xlt_d, eq_self, and_self, and_true, true_and, not_true, not_false_iff, ne_eq, true_or, or_true, or_false, false_or, nI_s, nI_leP, nI_eqP, x.k, ↓xb_eq (FX8_demandText_v x hl), c1, li3, c2, ↓dT0b, ↓dT1b, ↓dF0b, ↓dF1b, i1_0, ↓xnn_e (x.w5), x.wl.1, ↓xnn_e (x.wl.r13), ↓xb_eq (FX8_at_in x.wl.k13 x.wl.n13 hk (by omega)), x.ci.2.2.2.2.2.2.2 k hk]
theorem c8_account3 (x : XI h X w s f Z) (hl : zld Z = true)  : FX8_account E X 3 h = xx 2 h := by
  have c1 : ¬ (3 : Int32) < 0 := by decide
  have c2 : (3 : Int32) ≤ 3 := by decide
  unfold FX8_account
  simp (disch := omega) only [↓xg, ↓reduceIte, ↓xjn_d, ↓xlt_d, eq_self, and_self, and_true, true_and, not_true, not_false_iff, ne_eq, true_or, or_true, or_false, false_or, nI_s, nI_leP, nI_eqP, x.k, ↓xb_eq (FX8_demandText_v x hl), c1, c2, ↓dT0b, ↓dT1b, ↓dF0b, ↓dF1b, i1_0]
theorem c8_count (x : XI h X w s f Z) (hl : zld Z = true) {k : Nat} (hk : k < 3) : FX8_count E X (nI k) h = xv (nI (scn (zS Z) k)) h := by
  have c1 : ¬ nI k < (0 : Int32) := by rw [nI_lt0 (by omega)]; exact id
  have c2 : ¬ 3 ≤ k := by omega
  obtain ⟨n1, n2, n3, n4, n5, n6, n7, n8⟩ := x.nr hk
  unfold FX8_count
  simp (disch := omega) only [↓xg, ↓reduceIte, ↓xjn_d, ↓xlt_d, eq_self, and_self, and_true, true_and, not_true, not_false_iff, ne_eq, true_or, or_true, or_false, false_or, nI_s, nI_leP, nI_eqP, x.k, ↓xb_eq (FX8_demandText_v x hl), c1, li3, c2, ↓dT0b, ↓dT1b, ↓dF0b, ↓dF1b, i1_0, ↓xnn_e (x.w5), x.wl.1, ↓xb_eq (FX7_namesOf_v x hk), n1, n6]
theorem c8_count3 (x : XI h X w s f Z) (hl : zld Z = true)  : FX8_count E X 3 h = xx 2 h := by
  have c1 : ¬ (3 : Int32) < 0 := by decide
  have c2 : (3 : Int32) ≤ 3 := by decide
  unfold FX8_count
  simp (disch := omega) only [↓xg, ↓reduceIte, ↓xjn_d, ↓xlt_d, eq_self, and_self, and_true, true_and, not_true, not_false_iff, ne_eq, true_or, or_true, or_false, false_or, nI_s, nI_leP, nI_eqP, x.k, ↓xb_eq (FX8_demandText_v x hl), c1, c2, ↓dT0b, ↓dT1b, ↓dF0b, ↓dF1b, i1_0]
theorem c8_count0 (x : XI h X w s f Z) (hl : zld Z = false) (p : Int32) : FX8_count E X p h = xx 0 h := by
  unfold FX8_count
  rw [xg_t x.k, FX8_demandText_0 x hl]
  rfl
theorem c8_lawful (x : XI h X w s f Z) (hl : zld Z = true)  : FX8_lawful E X h = xv (lawS (zS Z) (zT Z)) h := by
  unfold FX8_lawful
  simp (disch := omega) only [↓xg, ↓reduceIte, ↓xjn_d, ↓xlt_d, eq_self, and_self, and_true, true_and, not_true, not_false_iff, ne_eq, true_or, or_true, or_false, false_or, nI_s, nI_leP, nI_eqP, x.k, ↓xb_eq (FX8_demandText_v x hl), ↓xnn_e (x.w5), x.wl.1, ↓xb_eq (FX7_lawfulModules_v x.ci)]
theorem c8_letter (x : XI h X w s f Z) (hl : zld Z = true) (z : WZ Z) {t k i : Nat} (ht : t < 3) (hk : k < scn (zS Z) t) (hi : i < (snn (zS Z) t k).length) : FX8_letter E X (nI t) (nI k) (nI i) h = xv (nI ((snn (zS Z) t k).getD i 0)) h := by
  have c1 : ¬ nI t < (0 : Int32) := by rw [nI_lt0 (by omega)]; exact id
  have c2 : ¬ 3 ≤ t := by omega
  obtain ⟨n1, n2, n3, n4, n5, n6, n7, n8⟩ := x.nr ht
  have sc := x.sc ht
  have sc2 : scn (zS Z) t ≤ 8 := by split at sc <;> omega
  have hq : inr (nI k) (scn (zS Z) t) = true := inr_nI (by omega) hk
  have hh : FX3_has E (w + 1 + 3 * t) (nI k) h = xv 1 h := by rw [FX3_has_n x ht, hq]; rfl
  obtain ⟨⟨l1, l2⟩, l3⟩ := z.2.1 t k ht hk
  have d1 : ¬ nI i < (0 : Int32) := by rw [nI_lt0 (by omega)]; exact id
  have d2 : ¬ (snn (zS Z) t k).length ≤ i := by omega
  unfold FX8_letter
  simp (disch := omega) only [↓xg, ↓reduceIte, ↓xjn_d, ↓xlt_d, eq_self, and_self, and_true, true_and, not_true, not_false_iff, ne_eq, true_or, or_true, or_false, false_or, nI_s, nI_leP, nI_eqP, x.k, ↓xb_eq (FX8_demandText_v x hl), c1, li3, c2, ↓dT0b, ↓dT1b, ↓dF0b, ↓dF1b, i1_0, ↓xnn_e (x.w5), x.wl.1, ↓xb_eq (FX7_namesOf_v x ht), n1, ↓xb_eq (hh), d1, ↓xb_eq (FX3_lengthOf_n x ht hk), d2, ↓xb_eq (FX3_letterOf_n x z ht hk hi)]
theorem c8_letter1 (x : XI h X w s f Z) (hl : zld Z = true) (z : WZ Z) {t k : Nat} (ht : t < 3) (hk : k < scn (zS Z) t) {i : Nat} (hi : (snn (zS Z) t k).length ≤ i) (hi2 : i < 100) : FX8_letter E X (nI t) (nI k) (nI i) h = xx 1 h := by
  have c1 : ¬ nI t < (0 : Int32) := by rw [nI_lt0 (by omega)]; exact id
  have c2 : ¬ 3 ≤ t := by omega
  obtain ⟨n1, n2, n3, n4, n5, n6, n7, n8⟩ := x.nr ht
  have sc := x.sc ht
  have sc2 : scn (zS Z) t ≤ 8 := by split at sc <;> omega
  have hq : inr (nI k) (scn (zS Z) t) = true := inr_nI (by omega) hk
  have hh : FX3_has E (w + 1 + 3 * t) (nI k) h = xv 1 h := by rw [FX3_has_n x ht, hq]; rfl
  obtain ⟨⟨l1, l2⟩, l3⟩ := z.2.1 t k ht hk
  have d1 : ¬ nI i < (0 : Int32) := by rw [nI_lt0 (by omega)]; exact id
  unfold FX8_letter
  simp (disch := omega) only [↓xg, ↓reduceIte, ↓xjn_d, ↓xlt_d, eq_self, and_self, and_true, true_and, not_true, not_false_iff, ne_eq, true_or, or_true, or_false, false_or, nI_s, nI_leP, nI_eqP, x.k, ↓xb_eq (FX8_demandText_v x hl), c1, li3, c2, ↓dT0b, ↓dT1b, ↓dF0b, ↓dF1b, i1_0, ↓xnn_e (x.w5), x.wl.1, ↓xb_eq (FX7_namesOf_v x ht), n1, ↓xb_eq (hh), d1, ↓xb_eq (FX3_lengthOf_n x ht hk), hi]
theorem c8_letter2 (x : XI h X w s f Z) (hl : zld Z = true) {t : Nat} (ht : t < 3) {q : Int32} (hq : inr q (scn (zS Z) t) = false) (i : Int32) : FX8_letter E X (nI t) q i h = xx 1 h := by
  have c1 : ¬ nI t < (0 : Int32) := by rw [nI_lt0 (by omega)]; exact id
  have c2 : ¬ 3 ≤ t := by omega
  obtain ⟨n1, n2, n3, n4, n5, n6, n7, n8⟩ := x.nr ht
  have sc := x.sc ht
  have sc2 : scn (zS Z) t ≤ 8 := by split at sc <;> omega
  have hh : FX3_has E (w + 1 + 3 * t) q h = xv 0 h := by rw [FX3_has_n x ht, hq]; rfl
  unfold FX8_letter
  simp (disch := omega) only [↓xg, ↓reduceIte, ↓xjn_d, ↓xlt_d, eq_self, and_self, and_true, true_and, not_true, not_false_iff, ne_eq, true_or, or_true, or_false, false_or, nI_s, nI_leP, nI_eqP, x.k, ↓xb_eq (FX8_demandText_v x hl), c1, li3, c2, ↓dT0b, ↓dT1b, ↓dF0b, ↓dF1b, i1_0, ↓xnn_e (x.w5), x.wl.1, ↓xb_eq (FX7_namesOf_v x ht), n1, ↓xb_eq (hh)]
theorem c8_letter3 (x : XI h X w s f Z) (hl : zld Z = true) (q i : Int32) : FX8_letter E X 3 q i h = xx 2 h := by
  have c1 : ¬ (3 : Int32) < 0 := by decide
  have c2 : (3 : Int32) ≤ 3 := by decide
  unfold FX8_letter
  simp (disch := omega) only [↓xg, ↓reduceIte, ↓xjn_d, ↓xlt_d, eq_self, and_self, and_true, true_and, not_true, not_false_iff, ne_eq, true_or, or_true, or_false, false_or, nI_s, nI_leP, nI_eqP, x.k, ↓xb_eq (FX8_demandText_v x hl), c1, c2, ↓dT0b, ↓dT1b, ↓dF0b, ↓dF1b, i1_0]
theorem c8_generated3 (x : XI h X w s f Z) (hl : zld Z = true) {g : Nat} (hk : g < sng (zS Z)) {q : Int32} (hq : setS q (sgn (zS Z) g) = false) : FX8_generated E X (nI g) q h = xx 2 h := by
  have G := x.ci.2.1.gt x.ci.1.1 hk
  have bn := x.ci.1.1.1
  unfold FX8_generated
  rw [xg_t (x.k), xb_eq (FX8_groupAt_v x hl hk), xg_t (G.1.1), xb_eq (FX2_hasAll_v G.1 G.2.1 q), hq, FX8_demandFit_v]
  rfl
theorem c8_textByte (x : XI h X w s f Z) (z : WZ Z) {k : Nat} (hk : k < ztl Z) : FX8_textByte E X (nI k) h = xv (nI (ztx Z k)) h := by
  obtain ⟨z71, zt⟩ := z.2.2.2.2.2
  obtain ⟨r12, k12, n12⟩ := x.1.1.2.2.2.2.2.2
  have t1 := x.2.2.2.2.2.2.1
  have c1 : ¬ nI k < (0 : Int32) := by rw [nI_lt0 (by omega)]; exact id
  have c2 : ¬ ztl Z ≤ k := by omega
  have c3 : ¬ 71 ≤ k := by omega
  unfold FX8_textByte
  simp (disch := omega) only [↓xg, ↓reduceIte, ↓xjn_d, ↓xlt_d, eq_self, and_self, and_true, true_and, not_true, not_false_iff, ne_eq, true_or, or_true, or_false, false_or, nI_s, nI_leP, nI_eqP, x.k, c1, t1, c2, ↓xnn_e (r12), k12, n12, ofNat_nI, c3, ↓dT0b, ↓dT1b, ↓dF0b, ↓dF1b, i1_0, xin_t, xz_nI, x.2.2.2.2.2.2.2 k hk]
theorem c8_textByte1 (x : XI h X w s f Z) (z : WZ Z) {k : Nat} (hk : ztl Z ≤ k) (hk2 : k < 1000) : FX8_textByte E X (nI k) h = xx 1 h := by
  obtain ⟨z71, zt⟩ := z.2.2.2.2.2
  have t1 := x.2.2.2.2.2.2.1
  have c1 : ¬ nI k < (0 : Int32) := by rw [nI_lt0 (by omega)]; exact id
  unfold FX8_textByte
  simp (disch := omega) only [↓xg, ↓reduceIte, ↓xjn_d, ↓xlt_d, eq_self, and_self, and_true, true_and, not_true, not_false_iff, ne_eq, true_or, or_true, or_false, false_or, nI_s, nI_leP, nI_eqP, x.k, c1, t1, hk, ↓dT0b, ↓dT1b, ↓dF0b, ↓dF1b, i1_0]
theorem c8_classes (x : XI h X w s f Z) (hl : zld Z = true) {m : Nat} (hk : m < snm (zS Z)) (hw : whS (zS Z) (zT Z) m = 0) : xo (FX8_classes E X (nI m) h) (fun v h1 => v = nI (ccN (mdS (zS Z) (zT Z) m)) ∧ iw (rXP X) h h1) := by
  have C := x.ci.cm hk
  have gd := x.ci.gd hk
  have wd := x.ci.wd hk
  have bm := x.bm hk
  have bn := x.ci.1.1.1
  have l8 : dnl (mdS (zS Z) (zT Z) m) ≤ 8 := bm.2.2.2.2
  have u8 : dnu (mdS (zS Z) (zT Z) m) ≤ 8 := bm.2.2.2.1
  have L := x.lw hk hw
  have c8 := ccN_8 L
  unfold FX8_classes
  refine xo_g x.k (xo_eb (FX8_lawfulModuleAt_v x hl hk hw) (xo_g C.k (xo_b (fresh_o x hk hw) (fun v h4 q4 => ?_))))
  obtain ⟨rfl, i4, x4, p4⟩ := q4
  exact xo_g (x4.ci.cm hk).pk (xo_v ⟨p4.1.cc, i4⟩)
theorem c8_firstAlike (x : XI h X w s f Z) (hl : zld Z = true) {m : Nat} (hk : m < snm (zS Z)) (hw : whS (zS Z) (zT Z) m = 0) : xo (FX8_firstAlike E X (nI m) h) (fun v h1 => v = nI (flS (zS Z) (zT Z) m) ∧ iw (rXP X) h h1) := by
  have C := x.ci.cm hk
  have gd := x.ci.gd hk
  have wd := x.ci.wd hk
  have bm := x.bm hk
  have bn := x.ci.1.1.1
  have l8 : dnl (mdS (zS Z) (zT Z) m) ≤ 8 := bm.2.2.2.2
  have u8 : dnu (mdS (zS Z) (zT Z) m) ≤ 8 := bm.2.2.2.1
  have L := x.lw hk hw
  have c8 := ccN_8 L
  unfold FX8_firstAlike
  refine xo_g x.k (xo_n x.w5 (xo_g x.k (xo_eb (FX8_lawfulModuleAt_v x hl hk hw) (xo_g x.wl.1 (xo_b (FX7_firstLike_o x.ci hk hw) (fun v h4 q4 => ?_))))))
  obtain ⟨rfl, i4⟩ := q4
  exact xo_v ⟨rfl, i4.wide (fun a z => x.rp z)⟩
theorem c8_classOf (x : XI h X w s f Z) (hl : zld Z = true) {m : Nat} (hk : m < snm (zS Z)) (hw : whS (zS Z) (zT Z) m = 0) {g : Nat} (hg : g < nlS2 (zS Z) m) : xo (FX8_classOf E X (nI m) (nI g) h) (fun v h1 => v = nI (nmS (mdS (zS Z) (zT Z) m) g) ∧ iw (rXP X) h h1) := by
  have C := x.ci.cm hk
  have gd := x.ci.gd hk
  have wd := x.ci.wd hk
  have bm := x.bm hk
  have bn := x.ci.1.1.1
  have l8 : dnl (mdS (zS Z) (zT Z) m) ≤ 8 := bm.2.2.2.2
  have u8 : dnu (mdS (zS Z) (zT Z) m) ≤ 8 := bm.2.2.2.1
  have L := x.lw hk hw
  have c8 := ccN_8 L
  unfold FX8_classOf
  refine xo_g x.k (xo_eb (FX8_moduleAt_v x hl hk) (xo_g C.k (xo_n C.l (xo_g C.lk (xo_eb (has_t C.2.2.2.1.1 C.2.2.2.1.2.1 hg) ?_)))))
  rw [dT1b]
  refine xo_g C.k (xo_jn ?_)
  rw [x.re hk, hw]
  refine xo_t rfl ?_
  dsimp only
  rw [dF1b]
  refine xo_g C.k (xo_b (fresh_o x hk hw) (fun v h4 q4 => ?_))
  obtain ⟨rfl, i4, x4, p4⟩ := q4
  have C4 := x4.ci.cm hk
  refine xo_g C4.pk (xo_eb (C4.ch (show g < 8 by omega)) (xo_v ⟨p4.1.nm L hg, i4⟩))
theorem c8_classOf1 (x : XI h X w s f Z) (hl : zld Z = true) {m : Nat} (hk : m < snm (zS Z)) {q : Int32} (hq : inr q (nlS2 (zS Z) m) = false) : FX8_classOf E X (nI m) q h = xx 1 h := by
  have C := x.ci.cm hk
  have gd := x.ci.gd hk
  have wd := x.ci.wd hk
  have bm := x.bm hk
  have bn := x.ci.1.1.1
  have l8 : dnl (mdS (zS Z) (zT Z) m) ≤ 8 := bm.2.2.2.2
  have u8 : dnu (mdS (zS Z) (zT Z) m) ≤ 8 := bm.2.2.2.1
  unfold FX8_classOf
  simp (disch := omega) only [↓xg, ↓reduceIte, ↓xjn_d, ↓xlt_d, eq_self, and_self, and_true, true_and, not_true, not_false_iff, ne_eq, true_or, or_true, or_false, false_or, nI_s, nI_leP, nI_eqP, x.k, ↓xb_eq (FX8_moduleAt_v x hl hk), C.k, ↓xnn_e (C.l), C.lk, ↓xb_eq (has_f C.2.2.2.1.1 C.2.2.2.1.2.1 hq), ↓dT0b, ↓dT1b, ↓dF0b, ↓dF1b, i1_0]
theorem c8_classTimes (x : XI h X w s f Z) (hl : zld Z = true) {m : Nat} (hk : m < snm (zS Z)) (hw : whS (zS Z) (zT Z) m = 0) {a b : Nat} (ha : a < ccN (mdS (zS Z) (zT Z) m)) (hb : b < ccN (mdS (zS Z) (zT Z) m)) : xo (FX8_classTimes E X (nI m) (nI a) (nI b) h) (fun v h1 => v = nI (cpS (mdS (zS Z) (zT Z) m) a b) ∧ iw (rXP X) h h1) := by
  have C := x.ci.cm hk
  have gd := x.ci.gd hk
  have wd := x.ci.wd hk
  have bm := x.bm hk
  have bn := x.ci.1.1.1
  have l8 : dnl (mdS (zS Z) (zT Z) m) ≤ 8 := bm.2.2.2.2
  have u8 : dnu (mdS (zS Z) (zT Z) m) ≤ 8 := bm.2.2.2.1
  have L := x.lw hk hw
  have c8 := ccN_8 L
  have F1 : ∀ {h4 : XH} (x4 : XI h4 X w s f Z) (p4 : PR h4 (w + 32 + 8 * m) (mdS (zS Z) (zT Z) m)) (q : Int32), FX4_has E (w + 32 + 8 * m + 3) q h4 = xv (bI (inr q (ccN (mdS (zS Z) (zT Z) m)))) h4 := fun x4 p4 q => FX4_has_v (x4.ci.cm hk).pk p4.1.cc (by omega) q
  unfold FX8_classTimes
  refine xo_g x.k (xo_eb (FX8_lawfulModuleAt_v x hl hk hw) (xo_g C.k (xo_b (fresh_o x hk hw) (fun v h4 q4 => ?_))))
  obtain ⟨rfl, i4, x4, p4⟩ := q4
  have C4 := x4.ci.cm hk
  have e1 := F1 x4 p4 (nI a)
  have e2 := F1 x4 p4 (nI b)
  rw [inr_nI (by omega) ha] at e1
  rw [inr_nI (by omega) hb] at e2
  have e1 : FX4_has E (w + 32 + 8 * m + 3) (nI a) h4 = xv 1 h4 := e1
  have e2 : FX4_has E (w + 32 + 8 * m + 3) (nI b) h4 = xv 1 h4 := e2
  refine xo_e (v := nI (cpS (mdS (zS Z) (zT Z) m) a b)) (h := h4) ?_ ⟨rfl, i4⟩
  simp (disch := omega) only [↓xg, ↓reduceIte, ↓xjn_d, ↓xlt_d, eq_self, and_self, and_true, true_and, not_true, not_false_iff, ne_eq, true_or, or_true, or_false, false_or, nI_s, nI_leP, nI_eqP, C4.pk, ↓xb_eq (e1), ↓xb_eq (e2), ↓dT0b, ↓dT1b, ↓dF0b, ↓dF1b, i1_0, C4.k, ↓xnn_e (C4.l), ↓xb_eq (FX4_product_v C4 L p4.1 ha hb)]
theorem c8_classTimes3 (x : XI h X w s f Z) (hl : zld Z = true) {m : Nat} (hk : m < snm (zS Z)) (hw : whS (zS Z) (zT Z) m = 0) {q : Int32} (hq : inr q (ccN (mdS (zS Z) (zT Z) m)) = false) (r : Int32) : xq (FX8_classTimes E X (nI m) q r h) (fun r h1 => r = .inr 2 ∧ iw (rXP X) h h1) := by
  have C := x.ci.cm hk
  have gd := x.ci.gd hk
  have wd := x.ci.wd hk
  have bm := x.bm hk
  have bn := x.ci.1.1.1
  have l8 : dnl (mdS (zS Z) (zT Z) m) ≤ 8 := bm.2.2.2.2
  have u8 : dnu (mdS (zS Z) (zT Z) m) ≤ 8 := bm.2.2.2.1
  have L := x.lw hk hw
  have c8 := ccN_8 L
  have F1 : ∀ {h4 : XH} (x4 : XI h4 X w s f Z) (p4 : PR h4 (w + 32 + 8 * m) (mdS (zS Z) (zT Z) m)) (q : Int32), FX4_has E (w + 32 + 8 * m + 3) q h4 = xv (bI (inr q (ccN (mdS (zS Z) (zT Z) m)))) h4 := fun x4 p4 q => FX4_has_v (x4.ci.cm hk).pk p4.1.cc (by omega) q
  unfold FX8_classTimes
  refine xq_g x.k (xq_eb (FX8_lawfulModuleAt_v x hl hk hw) (xq_g C.k (xq_b (fresh_o x hk hw) (fun v h4 q4 => ?_))))
  obtain ⟨rfl, i4, x4, p4⟩ := q4
  have e1 := F1 x4 p4 q
  refine xq_exx (c := 2) (h := h4) ?_ ⟨rfl, i4⟩
  rw [hq] at e1
  have e1 : FX4_has E (w + 32 + 8 * m + 3) q h4 = xv 0 h4 := e1
  simp (disch := omega) only [↓xg, ↓reduceIte, ↓xjn_d, ↓xlt_d, eq_self, and_self, and_true, true_and, not_true, not_false_iff, ne_eq, true_or, or_true, or_false, false_or, nI_s, nI_leP, nI_eqP, (x4.ci.cm hk).pk, ↓xb_eq (e1), ↓dT0b, ↓dT1b, ↓dF0b, ↓dF1b, i1_0]
theorem c8_classAct3 (x : XI h X w s f Z) (hl : zld Z = true) {m : Nat} (hk : m < snm (zS Z)) (hw : whS (zS Z) (zT Z) m = 0) {a b : Nat} (ha : a < ccN (mdS (zS Z) (zT Z) m)) (hb : b < nuS (zS Z) m) (hz : ¬ tbd (zT Z) m b = 0) : xq (FX8_classAct E X (nI m) (nI a) (nI b) h) (fun r h1 => r = .inr 2 ∧ iw (rXP X) h h1) := by
  have C := x.ci.cm hk
  have gd := x.ci.gd hk
  have wd := x.ci.wd hk
  have bm := x.bm hk
  have bn := x.ci.1.1.1
  have l8 : dnl (mdS (zS Z) (zT Z) m) ≤ 8 := bm.2.2.2.2
  have u8 : dnu (mdS (zS Z) (zT Z) m) ≤ 8 := bm.2.2.2.1
  have L := x.lw hk hw
  have c8 := ccN_8 L
  have F1 : ∀ {h4 : XH} (x4 : XI h4 X w s f Z) (p4 : PR h4 (w + 32 + 8 * m) (mdS (zS Z) (zT Z) m)) (q : Int32), FX4_has E (w + 32 + 8 * m + 3) q h4 = xv (bI (inr q (ccN (mdS (zS Z) (zT Z) m)))) h4 := fun x4 p4 q => FX4_has_v (x4.ci.cm hk).pk p4.1.cc (by omega) q
  unfold FX8_classAct
  refine xq_g x.k (xq_eb (FX8_lawfulModuleAt_v x hl hk hw) (xq_g C.k (xq_b (fresh_o x hk hw) (fun v h4 q4 => ?_))))
  obtain ⟨rfl, i4, x4, p4⟩ := q4
  have C4 := x4.ci.cm hk
  have e1 := F1 x4 p4 (nI a)
  rw [inr_nI (by omega) ha] at e1
  have e1 : FX4_has E (w + 32 + 8 * m + 3) (nI a) h4 = xv 1 h4 := e1
  refine xq_exx (c := 2) (h := h4) ?_ ⟨rfl, i4⟩
  have hb : b < dnu (mdS (zS Z) (zT Z) m) := hb
  have hz : ¬ dbd (mdS (zS Z) (zT Z) m) b = 0 := hz
  have q1 := C4.wd.2.2.2.2.2.1 b hb
  simp (disch := omega) only [↓xg, ↓reduceIte, ↓xjn_d, ↓xlt_d, eq_self, and_self, and_true, true_and, not_true, not_false_iff, ne_eq, true_or, or_true, or_false, false_or, nI_s, nI_leP, nI_eqP, C4.pk, ↓xb_eq (e1), ↓dT0b, ↓dT1b, ↓dF0b, ↓dF1b, i1_0, C4.k, ↓xnn_e (C4.u), C4.uk, ↓xb_eq (has_t C4.2.2.1.1 C4.2.2.1.2.1 hb), ↓xb_eq (C4.bd hb), nI_eq0, hz]
theorem c8_classAct (x : XI h X w s f Z) (hl : zld Z = true) {m : Nat} (hk : m < snm (zS Z)) (hw : whS (zS Z) (zT Z) m = 0) {a b : Nat} (ha : a < ccN (mdS (zS Z) (zT Z) m)) (hb : b < nuS (zS Z) m) (c3 : tbd (zT Z) m b = 0) : xo (FX8_classAct E X (nI m) (nI a) (nI b) h) (fun v h1 => v = nI (tac (zT Z) m (lsS (mdS (zS Z) (zT Z) m) a) b) ∧ iw (rXP X) h h1) := by
  have C := x.ci.cm hk
  have gd := x.ci.gd hk
  have wd := x.ci.wd hk
  have bm := x.bm hk
  have bn := x.ci.1.1.1
  have l8 : dnl (mdS (zS Z) (zT Z) m) ≤ 8 := bm.2.2.2.2
  have u8 : dnu (mdS (zS Z) (zT Z) m) ≤ 8 := bm.2.2.2.1
  have L := x.lw hk hw
  have c8 := ccN_8 L
  have F1 : ∀ {h4 : XH} (x4 : XI h4 X w s f Z) (p4 : PR h4 (w + 32 + 8 * m) (mdS (zS Z) (zT Z) m)) (q : Int32), FX4_has E (w + 32 + 8 * m + 3) q h4 = xv (bI (inr q (ccN (mdS (zS Z) (zT Z) m)))) h4 := fun x4 p4 q => FX4_has_v (x4.ci.cm hk).pk p4.1.cc (by omega) q
  have hb : b < dnu (mdS (zS Z) (zT Z) m) := hb
  have c3 : dbd (mdS (zS Z) (zT Z) m) b = 0 := c3
  have q4 := L.ls ha
  have l8 := L.l8
  unfold FX8_classAct
  refine xo_g x.k (xo_eb (FX8_lawfulModuleAt_v x hl hk hw) (xo_g C.k (xo_b (fresh_o x hk hw) (fun v h4 q4' => ?_))))
  obtain ⟨rfl, i4, x4, p4⟩ := q4'
  have C4 := x4.ci.cm hk
  have e1 := F1 x4 p4 (nI a)
  rw [inr_nI (by omega) ha] at e1
  have e1 : FX4_has E (w + 32 + 8 * m + 3) (nI a) h4 = xv 1 h4 := e1
  have e3 := C4.le (E := E) (show a < 8 by omega)
  rw [p4.1.ls ha] at e3
  refine xo_e (v := nI (tac (zT Z) m (lsS (mdS (zS Z) (zT Z) m) a) b)) (h := h4) ?_ ⟨rfl, i4⟩
  simp (disch := omega) only [↓xg, ↓reduceIte, ↓xjn_d, ↓xlt_d, eq_self, and_self, and_true, true_and, not_true, not_false_iff, ne_eq, true_or, or_true, or_false, false_or, nI_s, nI_leP, nI_eqP, C4.pk, ↓xb_eq (e1), ↓dT0b, ↓dT1b, ↓dF0b, ↓dF1b, i1_0, C4.k, ↓xnn_e (C4.u), C4.uk, ↓xb_eq (has_t C4.2.2.1.1 C4.2.2.1.2.1 hb), ↓xb_eq (C4.bd hb), c3, nI_0, ↓xb_eq (e3), ↓xb_eq (C4.ac q4 hb)]
  rfl
theorem c8_profile0 (x : XI h X w s f Z) (hl : zld Z = true) {m : Nat} (hk : m < snm (zS Z)) (hw : whS (zS Z) (zT Z) m = 0) {k : Nat} (k1 : 1 ≤ k) (k8 : k ≤ 8) : xo (FX8_profile E X (nI m) 0 (nI k) h) (fun v h1 => v = koS (mdS (zS Z) (zT Z) m) k ∧ iw (rXP X) h h1) := by
  have C := x.ci.cm hk
  have gd := x.ci.gd hk
  have wd := x.ci.wd hk
  have bm := x.bm hk
  have bn := x.ci.1.1.1
  have l8 : dnl (mdS (zS Z) (zT Z) m) ≤ 8 := bm.2.2.2.2
  have u8 : dnu (mdS (zS Z) (zT Z) m) ≤ 8 := bm.2.2.2.1
  have L := x.lw hk hw
  have c8 := ccN_8 L
  have h1 : ¬ nI k < 1 := by rw [show (1 : Int32) = nI 1 from rfl, nI_ltP (by omega) (by omega)]; omega
  have h2 : ¬ (8 : Int32) < nI k := by rw [li8, nI_ltP (by omega) (by omega)]; omega
  unfold FX8_profile
  refine xo_g x.k (xo_eb (FX8_lawfulModuleAt_v x hl hk hw) (xo_jn (xo_jn (xo_f h1 (xo_f h2 ?_)))))
  try dsimp only
  rw [dF1b]
  refine xo_g C.k (xo_b (fresh_o x hk hw) (fun v h4 q4 => ?_))
  obtain ⟨rfl, i4, x4, p4⟩ := q4
  have C4 := x4.ci.cm hk
  refine xo_jn (xo_t rfl (xo_g C4.pk (xo_n C4.p2.1 (xo_eb (FX8_at_in C4.p2.2.1 C4.p2.2.2 (show k < 9 by omega) (by omega)) (xo_v ⟨p4.2.1 k (by omega), i4⟩)))))
theorem c8_profile1 (x : XI h X w s f Z) (hl : zld Z = true) {m : Nat} (hk : m < snm (zS Z)) (hw : whS (zS Z) (zT Z) m = 0) {k : Nat} (k1 : 1 ≤ k) (k8 : k ≤ 8) : xo (FX8_profile E X (nI m) 1 (nI k) h) (fun v h1 => v = coS (mdS (zS Z) (zT Z) m) k ∧ iw (rXP X) h h1) := by
  have C := x.ci.cm hk
  have gd := x.ci.gd hk
  have wd := x.ci.wd hk
  have bm := x.bm hk
  have bn := x.ci.1.1.1
  have l8 : dnl (mdS (zS Z) (zT Z) m) ≤ 8 := bm.2.2.2.2
  have u8 : dnu (mdS (zS Z) (zT Z) m) ≤ 8 := bm.2.2.2.1
  have L := x.lw hk hw
  have c8 := ccN_8 L
  have h1 : ¬ nI k < 1 := by rw [show (1 : Int32) = nI 1 from rfl, nI_ltP (by omega) (by omega)]; omega
  have h2 : ¬ (8 : Int32) < nI k := by rw [li8, nI_ltP (by omega) (by omega)]; omega
  unfold FX8_profile
  refine xo_g x.k (xo_eb (FX8_lawfulModuleAt_v x hl hk hw) (xo_jn (xo_jn (xo_f h1 (xo_f h2 ?_)))))
  try dsimp only
  rw [dF1b]
  refine xo_g C.k (xo_b (fresh_o x hk hw) (fun v h4 q4 => ?_))
  obtain ⟨rfl, i4, x4, p4⟩ := q4
  have C4 := x4.ci.cm hk
  refine xo_jn (xo_f (by decide) (xo_g C4.pk (xo_n C4.p3.1 (xo_eb (FX8_at_in C4.p3.2.1 C4.p3.2.2 (show k < 9 by omega) (by omega)) (xo_v ⟨p4.2.2 k (by omega), i4⟩)))))
theorem c8_profile3 (x : XI h X w s f Z) (hl : zld Z = true) {m : Nat} (hk : m < snm (zS Z)) (hw : whS (zS Z) (zT Z) m = 0) (q : Int32) : FX8_profile E X (nI m) q 9 h = xx 2 h := by
  have C := x.ci.cm hk
  have gd := x.ci.gd hk
  have wd := x.ci.wd hk
  have bm := x.bm hk
  have bn := x.ci.1.1.1
  have l8 : dnl (mdS (zS Z) (zT Z) m) ≤ 8 := bm.2.2.2.2
  have u8 : dnu (mdS (zS Z) (zT Z) m) ≤ 8 := bm.2.2.2.1
  have c1 : ¬ (9 : Int32) < 1 := by decide
  have c2 : (8 : Int32) < 9 := by decide
  unfold FX8_profile
  simp (disch := omega) only [↓xg, ↓reduceIte, ↓xjn_d, ↓xlt_d, eq_self, and_self, and_true, true_and, not_true, not_false_iff, ne_eq, true_or, or_true, or_false, false_or, nI_s, nI_leP, nI_eqP, x.k, ↓xb_eq (FX8_lawfulModuleAt_v x hl hk hw), c1, c2, ↓dT0b, ↓dT1b, ↓dF0b, ↓dF1b, i1_0]
theorem c8_classes2 (x : XI h X w s f Z) (hl : zld Z = true) {m : Nat} (hk : m < snm (zS Z)) (hw : ¬ whS (zS Z) (zT Z) m = 0)  : FX8_classes E X (nI m) h = xx 2 h := by
  unfold FX8_classes
  rw [xg_t x.k, FX8_lawfulModuleAt_2 x hl hk hw]
  rfl
theorem c8_profile2 (x : XI h X w s f Z) (hl : zld Z = true) {m : Nat} (hk : m < snm (zS Z)) (hw : ¬ whS (zS Z) (zT Z) m = 0) (q r : Int32) : FX8_profile E X (nI m) q r h = xx 2 h := by
  unfold FX8_profile
  rw [xg_t x.k, FX8_lawfulModuleAt_2 x hl hk hw]
  rfl
theorem c8_largeTimes2 (x : XI h X w s f Z) (hl : zld Z = true) {m : Nat} (hk : m < snm (zS Z)) (hw : ¬ whS (zS Z) (zT Z) m = 0) (q r : Int32) : FX8_largeTimes E X (nI m) q r h = xx 2 h := by
  unfold FX8_largeTimes
  rw [xg_t x.k, FX8_lawfulModuleAt_2 x hl hk hw]
  rfl
theorem c8_firstAlike2 (x : XI h X w s f Z) (hl : zld Z = true) {m : Nat} (hk : m < snm (zS Z)) (hw : ¬ whS (zS Z) (zT Z) m = 0) : FX8_firstAlike E X (nI m) h = xx 2 h := by
  unfold FX8_firstAlike
  rw [xg_t x.k, xnn_e x.w5, xg_t x.k, FX8_lawfulModuleAt_2 x hl hk hw]
  rfl
theorem c8_kinds (x : XI h X w s f Z) (hl : zld Z = true)  : xo (FX8_kinds E X h) (fun v h1 => v = sumI (fun k => if whS (zS Z) (zT Z) k = 0 ∧ flS (zS Z) (zT Z) k = k then 1 else 0) (snm (zS Z)) ∧ iw (rXP X) h h1) := by
  have bn := x.ci.1.1.1
  unfold FX8_kinds
  refine xo_g x.k (xo_eb (FX8_demandText_v x hl) ?_)
  refine xlp_inv (Po := fun m => xo m _) (fun i s h' => s = (sumI (fun k => if whS (zS Z) (zT Z) k = 0 ∧ flS (zS Z) (zT Z) k = k then 1 else 0) i, nI i) ∧ iw (rXP X) h h') (snm (zS Z)) (by omega) (fun i s h1 ag hi I again => ?_) ⟨rfl, iw.refl _ _⟩
  obtain ⟨rfl, i1⟩ := I
  have x1 := XI_iw x i1 (fun a z => Or.inr (Or.inr z))
  refine xo_jn ?_
  by_cases e6 : i = 6
  · subst e6
    refine xo_t (show (6 : Int32) ≤ nI 6 by decide) (xo_v ⟨?_, i1⟩)
    rw [show snm (zS Z) = 6 by omega]
  · refine xo_f (by rw [li6, nI_leP (by omega) (by omega)]; omega) (xo_g x1.k (xo_n x1.w5 (xo_g x1.wl.1 (xo_n x1.wl.rm (xo_g x1.wl.km (xo_eb (x1.hm (nI i)) ?_))))))
    by_cases e : i = snm (zS Z)
    · have e0 : inr (nI i) (snm (zS Z)) = false := by
        unfold inr
        rw [decide_eq_false_iff_not]
        rintro ⟨-, z⟩
        rw [nI_ltP (by omega) (by omega)] at z
        omega
      rw [e0]
      refine xo_t rfl (xo_v ⟨?_, i1⟩)
      rw [e]
    · have hlt : i < snm (zS Z) := by omega
      have hw5 := whS_le (zS Z) (zT Z) i
      have C := x1.ci.cm hlt
      rw [inr_nI (by omega) hlt]
      refine xo_f (by decide) (xo_g x1.k (xo_n x1.w5 (xo_g x1.wl.1 (xo_n x1.wl.r11 (xo_g ⟨x1.wl.k11, by rw [x1.wl.n11]; exact xin_nI (by omega) (by omega)⟩ (xo_n (x1.wl.m (by omega)) (xo_g C.k (xo_jn (xo_jn ?_)))))))))
      rw [x1.re hlt]
      by_cases hw : whS (zS Z) (zT Z) i = 0
      · rw [hw]
        refine xo_t rfl (xo_g x1.k (xo_n x1.w5 (xo_g x1.wl.1 (xo_b (FX7_firstLike_o x1.ci hlt hw) (fun v h3 q3 => ?_)))))
        obtain ⟨rfl, i3⟩ := q3
        have i3 : iw (rXP X) h h3 := i1.trans i3 (fun _ q => q) (fun a z => x.rp z)
        have hf : flS (zS Z) (zT Z) i ≤ i := fi_le i _
        by_cases c : flS (zS Z) (zT Z) i = i
        · refine xo_t (by rw [c]) (xo_lt ?_)
          try dsimp only
          rw [nI_s]
          refine again hlt _ _ ⟨?_, i3⟩
          rw [sumI_s, if_pos (show whS (zS Z) (zT Z) i = 0 ∧ flS (zS Z) (zT Z) i = i from ⟨hw, c⟩)]
        · refine xo_f (by rw [nI_eqP (by omega) (by omega)]; exact c) (xo_lt ?_)
          try dsimp only
          rw [nI_s]
          refine again hlt _ _ ⟨?_, i3⟩
          rw [sumI_s, if_neg (show ¬ (whS (zS Z) (zT Z) i = 0 ∧ flS (zS Z) (zT Z) i = i) from fun z => c z.2)]
      · refine xo_f (by rw [nI_eq0 (by omega)]; exact hw) (xo_lt ?_)
        try dsimp only
        rw [nI_s]
        refine again hlt _ _ ⟨?_, i1⟩
        rw [sumI_s, if_neg (show ¬ (whS (zS Z) (zT Z) i = 0 ∧ flS (zS Z) (zT Z) i = i) from fun z => hw z.1)]
theorem c8_setBoundaryM (x : XI h X w s f Z) (hl : zld Z = true) {p : Int32} (hp : inr p (snm (zS Z)) = false) (q r : Int32) : FX8_setBoundary E X p q r h = xx 1 h := by
  unfold FX8_setBoundary
  rw [xg_t x.k, FX8_moduleAt_1 x hl hp]
  rfl
theorem c8_setBoundaryG (x : XI h X w s f Z) (hl : zld Z = true) {m : Nat} (hk : m < snm (zS Z)) {a : Nat} (ha : a < nuS (zS Z) m) {q : Int32} (hq : inr q (nlS2 (zS Z) m) = false) : FX8_setBoundary E X (nI m) (nI a) q h = xx 1 h := by
  have C := x.ci.cm hk
  have gd := x.ci.gd hk
  have wd := x.ci.wd hk
  have bm := x.bm hk
  have bn := x.ci.1.1.1
  have l8 : dnl (mdS (zS Z) (zT Z) m) ≤ 8 := bm.2.2.2.2
  have u8 : dnu (mdS (zS Z) (zT Z) m) ≤ 8 := bm.2.2.2.1
  unfold FX8_setBoundary
  simp (disch := omega) only [↓xg, ↓reduceIte, ↓xjn_d, ↓xlt_d, eq_self, and_self, and_true, true_and, not_true, not_false_iff, ne_eq, true_or, or_true, or_false, false_or, nI_s, nI_leP, nI_eqP, x.k, ↓xb_eq (FX8_moduleAt_v x hl hk), C.k, ↓xnn_e (C.u), C.uk, ↓xnn_e (C.l), C.lk, ↓xb_eq (has_t C.2.2.1.1 C.2.2.1.2.1 ha), ↓xb_eq (has_f C.2.2.2.1.1 C.2.2.2.1.2.1 hq), ↓dT0b, ↓dT1b, ↓dF0b, ↓dF1b, i1_0]
theorem c8_setActM (x : XI h X w s f Z) (hl : zld Z = true) {p : Int32} (hp : inr p (snm (zS Z)) = false) (q r t : Int32) : FX8_setAct E X p q r t h = xx 1 h := by
  unfold FX8_setAct
  rw [xg_t x.k, FX8_moduleAt_1 x hl hp]
  rfl
theorem c8_setActT (x : XI h X w s f Z) (hl : zld Z = true) {m : Nat} (hk : m < snm (zS Z)) {g a : Nat} (hg : g < nlS2 (zS Z) m) (ha : a < nuS (zS Z) m) {t : Int32} (ht : inr t (nuS (zS Z) m) = false) : FX8_setAct E X (nI m) (nI g) (nI a) t h = xx 1 h := by
  have C := x.ci.cm hk
  have gd := x.ci.gd hk
  have wd := x.ci.wd hk
  have bm := x.bm hk
  have bn := x.ci.1.1.1
  have l8 : dnl (mdS (zS Z) (zT Z) m) ≤ 8 := bm.2.2.2.2
  have u8 : dnu (mdS (zS Z) (zT Z) m) ≤ 8 := bm.2.2.2.1
  unfold FX8_setAct
  simp (disch := omega) only [↓xg, ↓reduceIte, ↓xjn_d, ↓xlt_d, eq_self, and_self, and_true, true_and, not_true, not_false_iff, ne_eq, true_or, or_true, or_false, false_or, nI_s, nI_leP, nI_eqP, x.k, ↓xb_eq (FX8_moduleAt_v x hl hk), C.k, ↓xnn_e (C.l), C.lk, ↓xnn_e (C.u), C.uk, ↓xb_eq (has_t C.2.2.2.1.1 C.2.2.2.1.2.1 hg), ↓xb_eq (has_t C.2.2.1.1 C.2.2.1.2.1 ha), ↓xb_eq (has_f C.2.2.1.1 C.2.2.1.2.1 ht), ↓dT0b, ↓dT1b, ↓dF0b, ↓dF1b, i1_0]
theorem c8_restM (x : XI h X w s f Z) (hl : zld Z = true) {p : Int32} (hp : inr p (snm (zS Z)) = false) : FX8_rest E X p h = xx 1 h := by
  unfold FX8_rest
  rw [xg_t x.k, FX8_moduleAt_1 x hl hp]
  rfl
theorem c8_conjugate2 (x : XI h X w s f Z) (hl : zld Z = true) {m : Nat} (hk : m < snm (zS Z)) (hu : ¬ smu (zS Z) m = sml (zS Z) m) : FX8_conjugate E X (nI m) h = xx 2 h := by
  have C := x.ci.cm hk
  have gd := x.ci.gd hk
  have wd := x.ci.wd hk
  have bm := x.bm hk
  have bn := x.ci.1.1.1
  have l8 : dnl (mdS (zS Z) (zT Z) m) ≤ 8 := bm.2.2.2.2
  have u8 : dnu (mdS (zS Z) (zT Z) m) ≤ 8 := bm.2.2.2.1
  have n0 := x.ci.2.1.1.2.1
  have g6 := x.ci.1.1.1.1
  have mu := x.ci.1.1.2.2.1 m hk
  have hne : ¬ xi h (w + 14 + 3 * smu (zS Z) m) 0 = xi h (w + 14 + 3 * sml (zS Z) m) 0 := by
    rw [n0 _ (by omega), n0 _ (by omega), nI_eqP (by omega) (by omega)]
    exact hu
  unfold FX8_conjugate
  rw [xg_t (x.k), xb_eq (FX8_moduleAt_v x hl hk), xg_t (C.k), xnn_e (C.u), xg_t (C.uk), xg_t (C.k), xnn_e (C.l), xg_t (C.lk), xjn_d, if_neg hne]
  rfl
theorem c8_setTopA (x : XI h X w s f Z) (hl : zld Z = true) {p : Int32} (hp : inr p (sna (zS Z)) = false) (q r : Int32) : FX8_setTop E X p q r h = xx 1 h := by
  unfold FX8_setTop
  rw [xg_t x.k, FX8_arrowAt_1 x hl hp]
  rfl
theorem c8_setTopH (x : XI h X w s f Z) (hl : zld Z = true) {a : Nat} (hk : a < sna (zS Z)) {q : Int32} (hq : inr q (nuS (zS Z) (saf (zS Z) a)) = false) (r : Int32) : FX8_setTop E X (nI a) q r h = xx 1 h := by
  have A := x.ci.ca hk
  have ba := x.ba hk
  have bm := x.bm ba.2.1
  have bo := x.bm ba.2.2
  have gd := x.ci.gd ba.2.1
  have ge := x.ci.gd ba.2.2
  have bn := x.ci.1.1.1
  unfold FX8_setTop
  simp (disch := omega) only [↓xg, ↓reduceIte, ↓xjn_d, ↓xlt_d, eq_self, and_self, and_true, true_and, not_true, not_false_iff, ne_eq, true_or, or_true, or_false, false_or, nI_s, nI_leP, nI_eqP, x.k, ↓xb_eq (FX8_arrowAt_v x hl hk), A.k, ↓xnn_e (A.f), A.cf.k, ↓xnn_e (A.cf.u), A.cf.uk, ↓xb_eq (has_f A.cf.2.2.1.1 A.cf.2.2.1.2.1 hq), ↓dT0b, ↓dT1b, ↓dF0b, ↓dF1b, i1_0]
theorem c8_setBottomT (x : XI h X w s f Z) (hl : zld Z = true) {a : Nat} (hk : a < sna (zS Z)) {b : Nat} (hb : b < nlS2 (zS Z) (saf (zS Z) a)) {q : Int32} (hq : inr q (nlS2 (zS Z) (sao (zS Z) a)) = false) : FX8_setBottom E X (nI a) (nI b) q h = xx 1 h := by
  have A := x.ci.ca hk
  have ba := x.ba hk
  have bm := x.bm ba.2.1
  have bo := x.bm ba.2.2
  have gd := x.ci.gd ba.2.1
  have ge := x.ci.gd ba.2.2
  have bn := x.ci.1.1.1
  unfold FX8_setBottom
  simp (disch := omega) only [↓xg, ↓reduceIte, ↓xjn_d, ↓xlt_d, eq_self, and_self, and_true, true_and, not_true, not_false_iff, ne_eq, true_or, or_true, or_false, false_or, nI_s, nI_leP, nI_eqP, x.k, ↓xb_eq (FX8_arrowAt_v x hl hk), A.k, ↓xnn_e (A.f), A.cf.k, ↓xnn_e (A.cf.l), A.cf.lk, ↓xb_eq (has_t A.cf.2.2.2.1.1 A.cf.2.2.2.1.2.1 hb), ↓xnn_e (A.o), A.co.k, ↓xnn_e (A.co.l), A.co.lk, ↓xb_eq (has_f A.co.2.2.2.1.1 A.co.2.2.2.1.2.1 hq), ↓dT0b, ↓dT1b, ↓dF0b, ↓dF1b, i1_0]
theorem c8_parseError (x : XI h X w s f Z) : FX8_parseError E X h = xv (zer Z) h := by
  unfold FX8_parseError
  rw [xg_t x.k, x.2.2.2.1.1]
theorem c8_errorPosition (x : XI h X w s f Z) : FX8_errorPosition E X h = xv (zea Z) h := by
  unfold FX8_errorPosition
  rw [xg_t x.k, x.2.2.2.1.2.1]
theorem c8_undoable (x : XI h X w s f Z) : FX8_undoable E X h = xv (nI (zun Z)) h := by
  unfold FX8_undoable
  rw [xg_t x.k, x.2.2.2.2.1.1.2.2]
theorem c8_undo0 (x : XI h X w s f Z) (h0 : zun Z = 0) : FX8_undo E X h = xx 0 h := by
  have e := x.2.2.2.2.1.1.2.2
  rw [h0] at e
  unfold FX8_undo
  rw [xg_t x.k, e, if_neg (by decide)]
end C8R
