/-! Class and reference answer alike: modules. -/
set_option linter.unusedVariables false
section AG
variable {E : XG} {h : XH} {X Y O : Nat} {Z : ZD}
theorem ag_groupOf (j : JJ h X Y O Z) (p q : Int32) : AGx X Y (cmT [0, 1]) h Z (FX8_groupOf E X p q) (FX9_groupOf E Y p q) := by
  obtain ⟨z, -, -, ⟨w, s, f, x⟩, y⟩ := j
  have bn := x.ci.1.1.1
  cases hl : zld Z
  · refine AG_x 0 1 0 ?_ (fun h' y => ?_) (by decide)
    · unfold FX8_groupOf
      rw [xg_t x.k, FX8_moduleAt_0 x hl]
      first | rfl | (rw [xnn_e x.w5, xg_t x.k]; rfl)
    · unfold FX9_groupOf
      simp (disch := omega) only [↓xg, ↓reduceIte, ↓xjn_d, ↓xlt_d, eq_self, and_self, and_true, true_and, not_true, not_false_iff, ne_eq, true_or, or_true, or_false, false_or, nI_s, nI_leP, nI_eqP, y.l.1, ↓xb_eq (FX9_noModule_0 y hl p), i1_0, nI_0]
      try rfl
  · cases hp : inr p (snm (zS Z))
    · refine AG_x 1 2 0 ?_ (fun h' y => ?_) (by decide)
      · unfold FX8_groupOf
        rw [xg_t x.k, FX8_moduleAt_1 x hl hp]
        first | rfl | (rw [xnn_e x.w5, xg_t x.k]; rfl)
      · unfold FX9_groupOf
        simp (disch := omega) only [↓xg, ↓reduceIte, ↓xjn_d, ↓xlt_d, eq_self, and_self, and_true, true_and, not_true, not_false_iff, ne_eq, true_or, or_true, or_false, false_or, nI_s, nI_leP, nI_eqP, y.l.1, ↓xb_eq (FX9_noModule_1 y hl hp), i1_0]
        try rfl
    · obtain ⟨m, hk, rfl⟩ := inr_of (by omega) hp
      have C := x.ci.cm hk
      have gd := x.ci.gd hk
      have wd := x.ci.wd hk
      have bm := y.bm hk
      have l8 : dnl (mdS (zS Z) (zT Z) m) ≤ 8 := bm.2.2.2.2
      have u8 : dnu (mdS (zS Z) (zT Z) m) ≤ 8 := bm.2.2.2.1
      have nu : xi h (w + 14 + 3 * smu (zS Z) m) 0 = nI (smu (zS Z) m) := x.ci.2.1.1.2.1 _ (by omega)
      have nl : xi h (w + 14 + 3 * sml (zS Z) m) 0 = nI (sml (zS Z) m) := x.ci.2.1.1.2.1 _ (by omega)
      by_cases hq : q = 0
      · refine AG_v (nI (smu (zS Z) m)) ?_ (fun h' y => ?_)
        · unfold FX8_groupOf
          simp (disch := omega) only [↓xg, ↓reduceIte, ↓xjn_d, ↓xlt_d, eq_self, and_self, and_true, true_and, not_true, not_false_iff, ne_eq, true_or, or_true, or_false, false_or, nI_s, nI_leP, nI_eqP, x.k, ↓xb_eq (FX8_moduleAt_v x hl hk), hq, C.k, ↓xnn_e (C.u), C.uk, nu]
        · have y0 := y.t 0
          unfold FX9_groupOf
          simp (disch := omega) only [↓xg, ↓reduceIte, ↓xjn_d, ↓xlt_d, eq_self, and_self, and_true, true_and, not_true, not_false_iff, ne_eq, true_or, or_true, or_false, false_or, nI_s, nI_leP, nI_eqP, y.l.1, ↓xb_eq (FX9_noModule_v y hl hk), hq, y0.l.1, ↓xnn_e (y0.l.r3), y0.l.k3, y0.l.n3, xin_t, xz_nI, (y0.1.1.ym hk).2.1.1]
      · refine AG_v (nI (sml (zS Z) m)) ?_ (fun h' y => ?_)
        · unfold FX8_groupOf
          simp (disch := omega) only [↓xg, ↓reduceIte, ↓xjn_d, ↓xlt_d, eq_self, and_self, and_true, true_and, not_true, not_false_iff, ne_eq, true_or, or_true, or_false, false_or, nI_s, nI_leP, nI_eqP, x.k, ↓xb_eq (FX8_moduleAt_v x hl hk), hq, C.k, ↓xnn_e (C.l), C.lk, nl]
        · have y0 := y.t 0
          unfold FX9_groupOf
          simp (disch := omega) only [↓xg, ↓reduceIte, ↓xjn_d, ↓xlt_d, eq_self, and_self, and_true, true_and, not_true, not_false_iff, ne_eq, true_or, or_true, or_false, false_or, nI_s, nI_leP, nI_eqP, y.l.1, ↓xb_eq (FX9_noModule_v y hl hk), hq, y0.l.1, ↓xnn_e (y0.l.r4), y0.l.k4, y0.l.n4, xin_t, xz_nI, (y0.1.1.ym hk).2.1.2]
theorem ag_why (j : JJ h X Y O Z) (p : Int32) : AGx X Y (cmT [0, 1]) h Z (FX8_why E X p) (FX9_why E Y p) := by
  obtain ⟨z, -, -, ⟨w, s, f, x⟩, y⟩ := j
  have bn := x.ci.1.1.1
  cases hl : zld Z
  · refine AG_x 0 1 0 ?_ (fun h' y => ?_) (by decide)
    · unfold FX8_why
      rw [xg_t x.k, FX8_moduleAt_0 x hl]
      first | rfl | (rw [xnn_e x.w5, xg_t x.k]; rfl)
    · unfold FX9_why
      simp (disch := omega) only [↓xg, ↓reduceIte, ↓xjn_d, ↓xlt_d, eq_self, and_self, and_true, true_and, not_true, not_false_iff, ne_eq, true_or, or_true, or_false, false_or, nI_s, nI_leP, nI_eqP, y.l.1, ↓xb_eq (FX9_noModule_0 y hl p), i1_0, nI_0]
      try rfl
  · cases hp : inr p (snm (zS Z))
    · refine AG_x 1 2 0 ?_ (fun h' y => ?_) (by decide)
      · unfold FX8_why
        rw [xg_t x.k, FX8_moduleAt_1 x hl hp]
        first | rfl | (rw [xnn_e x.w5, xg_t x.k]; rfl)
      · unfold FX9_why
        simp (disch := omega) only [↓xg, ↓reduceIte, ↓xjn_d, ↓xlt_d, eq_self, and_self, and_true, true_and, not_true, not_false_iff, ne_eq, true_or, or_true, or_false, false_or, nI_s, nI_leP, nI_eqP, y.l.1, ↓xb_eq (FX9_noModule_1 y hl hp), i1_0]
        try rfl
    · obtain ⟨m, hk, rfl⟩ := inr_of (by omega) hp
      have C := x.ci.cm hk
      have gd := x.ci.gd hk
      have wd := x.ci.wd hk
      have bm := y.bm hk
      have l8 : dnl (mdS (zS Z) (zT Z) m) ≤ 8 := bm.2.2.2.2
      have u8 : dnu (mdS (zS Z) (zT Z) m) ≤ 8 := bm.2.2.2.1
      refine AG_v (nI (whS (zS Z) (zT Z) m)) ?_ (fun h' y => ?_)
      · unfold FX8_why
        simp (disch := omega) only [↓xg, ↓reduceIte, ↓xjn_d, ↓xlt_d, eq_self, and_self, and_true, true_and, not_true, not_false_iff, ne_eq, true_or, or_true, or_false, false_or, nI_s, nI_leP, nI_eqP, x.k, ↓xb_eq (FX8_moduleAt_v x hl hk), C.k, x.re hk]
      · have y0 := y.t 0
        unfold FX9_why
        simp (disch := omega) only [↓xg, ↓reduceIte, ↓xjn_d, ↓xlt_d, eq_self, and_self, and_true, true_and, not_true, not_false_iff, ne_eq, true_or, or_true, or_false, false_or, nI_s, nI_leP, nI_eqP, y.l.1, ↓xb_eq (FX9_noModule_v y hl hk), y0.l.1, ↓xb_eq (y0.why hk)]
theorem ag_kernel (j : JJ h X Y O Z) (p : Int32) : AGx X Y (cmT [0, 1]) h Z (FX8_kernel E X p) (FX9_kernel E Y p) := by
  obtain ⟨z, -, -, ⟨w, s, f, x⟩, y⟩ := j
  have bn := x.ci.1.1.1
  cases hl : zld Z
  · refine AG_x 0 1 0 ?_ (fun h' y => ?_) (by decide)
    · unfold FX8_kernel
      rw [xg_t x.k, FX8_moduleAt_0 x hl]
      first | rfl | (rw [xnn_e x.w5, xg_t x.k]; rfl)
    · unfold FX9_kernel
      simp (disch := omega) only [↓xg, ↓reduceIte, ↓xjn_d, ↓xlt_d, eq_self, and_self, and_true, true_and, not_true, not_false_iff, ne_eq, true_or, or_true, or_false, false_or, nI_s, nI_leP, nI_eqP, y.l.1, ↓xb_eq (FX9_noModule_0 y hl p), i1_0, nI_0]
      try rfl
  · cases hp : inr p (snm (zS Z))
    · refine AG_x 1 2 0 ?_ (fun h' y => ?_) (by decide)
      · unfold FX8_kernel
        rw [xg_t x.k, FX8_moduleAt_1 x hl hp]
        first | rfl | (rw [xnn_e x.w5, xg_t x.k]; rfl)
      · unfold FX9_kernel
        simp (disch := omega) only [↓xg, ↓reduceIte, ↓xjn_d, ↓xlt_d, eq_self, and_self, and_true, true_and, not_true, not_false_iff, ne_eq, true_or, or_true, or_false, false_or, nI_s, nI_leP, nI_eqP, y.l.1, ↓xb_eq (FX9_noModule_1 y hl hp), i1_0]
        try rfl
    · obtain ⟨m, hk, rfl⟩ := inr_of (by omega) hp
      have C := x.ci.cm hk
      have gd := x.ci.gd hk
      have wd := x.ci.wd hk
      have bm := y.bm hk
      have l8 : dnl (mdS (zS Z) (zT Z) m) ≤ 8 := bm.2.2.2.2
      have u8 : dnu (mdS (zS Z) (zT Z) m) ≤ 8 := bm.2.2.2.1
      refine AG_v (kerS (mdS (zS Z) (zT Z) m)) ?_ (fun h' y => ?_)
      · unfold FX8_kernel
        simp (disch := omega) only [↓xg, ↓reduceIte, ↓xjn_d, ↓xlt_d, eq_self, and_self, and_true, true_and, not_true, not_false_iff, ne_eq, true_or, or_true, or_false, false_or, nI_s, nI_leP, nI_eqP, x.k, ↓xb_eq (FX8_moduleAt_v x hl hk), C.k, ↓xb_eq (FX1_kernelSet_v C)]
      · have y0 := y.t 0
        unfold FX9_kernel
        simp (disch := omega) only [↓xg, ↓reduceIte, ↓xjn_d, ↓xlt_d, eq_self, and_self, and_true, true_and, not_true, not_false_iff, ne_eq, true_or, or_true, or_false, false_or, nI_s, nI_leP, nI_eqP, y.l.1, ↓xb_eq (FX9_noModule_v y hl hk), y0.l.1, ↓xb_eq (FX9_kernelOf_v (y0.1.1.ym hk) gd)]
theorem ag_image (j : JJ h X Y O Z) (p : Int32) : AGx X Y (cmT [0, 1]) h Z (FX8_image E X p) (FX9_image E Y p) := by
  obtain ⟨z, -, -, ⟨w, s, f, x⟩, y⟩ := j
  have bn := x.ci.1.1.1
  cases hl : zld Z
  · refine AG_x 0 1 0 ?_ (fun h' y => ?_) (by decide)
    · unfold FX8_image
      rw [xg_t x.k, FX8_moduleAt_0 x hl]
      first | rfl | (rw [xnn_e x.w5, xg_t x.k]; rfl)
    · unfold FX9_image
      simp (disch := omega) only [↓xg, ↓reduceIte, ↓xjn_d, ↓xlt_d, eq_self, and_self, and_true, true_and, not_true, not_false_iff, ne_eq, true_or, or_true, or_false, false_or, nI_s, nI_leP, nI_eqP, y.l.1, ↓xb_eq (FX9_noModule_0 y hl p), i1_0, nI_0]
      try rfl
  · cases hp : inr p (snm (zS Z))
    · refine AG_x 1 2 0 ?_ (fun h' y => ?_) (by decide)
      · unfold FX8_image
        rw [xg_t x.k, FX8_moduleAt_1 x hl hp]
        first | rfl | (rw [xnn_e x.w5, xg_t x.k]; rfl)
      · unfold FX9_image
        simp (disch := omega) only [↓xg, ↓reduceIte, ↓xjn_d, ↓xlt_d, eq_self, and_self, and_true, true_and, not_true, not_false_iff, ne_eq, true_or, or_true, or_false, false_or, nI_s, nI_leP, nI_eqP, y.l.1, ↓xb_eq (FX9_noModule_1 y hl hp), i1_0]
        try rfl
    · obtain ⟨m, hk, rfl⟩ := inr_of (by omega) hp
      have C := x.ci.cm hk
      have gd := x.ci.gd hk
      have wd := x.ci.wd hk
      have bm := y.bm hk
      have l8 : dnl (mdS (zS Z) (zT Z) m) ≤ 8 := bm.2.2.2.2
      have u8 : dnu (mdS (zS Z) (zT Z) m) ≤ 8 := bm.2.2.2.1
      refine AG_v (imgS (mdS (zS Z) (zT Z) m)) ?_ (fun h' y => ?_)
      · unfold FX8_image
        simp (disch := omega) only [↓xg, ↓reduceIte, ↓xjn_d, ↓xlt_d, eq_self, and_self, and_true, true_and, not_true, not_false_iff, ne_eq, true_or, or_true, or_false, false_or, nI_s, nI_leP, nI_eqP, x.k, ↓xb_eq (FX8_moduleAt_v x hl hk), C.k, ↓xb_eq (FX1_imageSet_v C)]
      · have y0 := y.t 0
        unfold FX9_image
        simp (disch := omega) only [↓xg, ↓reduceIte, ↓xjn_d, ↓xlt_d, eq_self, and_self, and_true, true_and, not_true, not_false_iff, ne_eq, true_or, or_true, or_false, false_or, nI_s, nI_leP, nI_eqP, y.l.1, ↓xb_eq (FX9_noModule_v y hl hk), y0.l.1, ↓xb_eq (FX9_imageOf_v (y0.1.1.ym hk) gd)]
theorem ag_isCentral (j : JJ h X Y O Z) (p : Int32) : AGx X Y (cmT [0, 1]) h Z (FX8_isCentral E X p) (FX9_isCentral E Y p) := by
  obtain ⟨z, -, -, ⟨w, s, f, x⟩, y⟩ := j
  have bn := x.ci.1.1.1
  cases hl : zld Z
  · refine AG_x 0 1 0 ?_ (fun h' y => ?_) (by decide)
    · unfold FX8_isCentral
      rw [xg_t x.k, FX8_moduleAt_0 x hl]
      first | rfl | (rw [xnn_e x.w5, xg_t x.k]; rfl)
    · unfold FX9_isCentral
      simp (disch := omega) only [↓xg, ↓reduceIte, ↓xjn_d, ↓xlt_d, eq_self, and_self, and_true, true_and, not_true, not_false_iff, ne_eq, true_or, or_true, or_false, false_or, nI_s, nI_leP, nI_eqP, y.l.1, ↓xb_eq (FX9_noModule_0 y hl p), i1_0, nI_0]
      try rfl
  · cases hp : inr p (snm (zS Z))
    · refine AG_x 1 2 0 ?_ (fun h' y => ?_) (by decide)
      · unfold FX8_isCentral
        rw [xg_t x.k, FX8_moduleAt_1 x hl hp]
        first | rfl | (rw [xnn_e x.w5, xg_t x.k]; rfl)
      · unfold FX9_isCentral
        simp (disch := omega) only [↓xg, ↓reduceIte, ↓xjn_d, ↓xlt_d, eq_self, and_self, and_true, true_and, not_true, not_false_iff, ne_eq, true_or, or_true, or_false, false_or, nI_s, nI_leP, nI_eqP, y.l.1, ↓xb_eq (FX9_noModule_1 y hl hp), i1_0]
        try rfl
    · obtain ⟨m, hk, rfl⟩ := inr_of (by omega) hp
      have C := x.ci.cm hk
      have gd := x.ci.gd hk
      have wd := x.ci.wd hk
      have bm := y.bm hk
      have l8 : dnl (mdS (zS Z) (zT Z) m) ≤ 8 := bm.2.2.2.2
      have u8 : dnu (mdS (zS Z) (zT Z) m) ≤ 8 := bm.2.2.2.1
      have e1 : FX9_centreOf E Y (nI (smu (zS Z) m)) (yi h Y 0 0) = FX9_centreOf E Y (nI (smu (zS Z) m)) (yi h Y 0 0) := rfl
      by_cases hz : (kerS (mdS (zS Z) (zT Z) m) &&& (cenS (nuS (zS Z) m) (sgt (zS Z) (smu (zS Z) m)) ^^^ (-1))) = 0
      · refine AG_v 1 ?_ (fun h' y => ?_)
        · have e2 : FX2_middle E (w + 14 + 3 * smu (zS Z) m) h = xv (cenS (nuS (zS Z) m) (sgt (zS Z) (smu (zS Z) m))) h := FX2_middle_v C.2.2.1.1 C.2.2.1.2.1
          unfold FX8_isCentral
          simp (disch := omega) only [↓xg, ↓reduceIte, ↓xjn_d, ↓xlt_d, eq_self, and_self, and_true, true_and, not_true, not_false_iff, ne_eq, true_or, or_true, or_false, false_or, nI_s, nI_leP, nI_eqP, x.k, ↓xb_eq (FX8_moduleAt_v x hl hk), C.k, ↓xb_eq (FX1_kernelSet_v C), ↓xnn_e (C.u), C.uk, ↓xb_eq (e2), hz]
        · have y0 := y.t 0
          have M := y0.1.1.ym hk
          have e2 : FX9_centreOf E Y (xi (yi h' Y 0 0) (Y + 3) (nI m).toNatClampNeg) (yi h' Y 0 0) = xv (cenS (nuS (zS Z) m) (sgt (zS Z) (smu (zS Z) m))) (yi h' Y 0 0) := by
            rw [xz_nI (by omega), M.2.1.1]; exact FX9_centreOf_v y0.l M.2.2.1.1
          unfold FX9_isCentral
          simp (disch := omega) only [↓xg, ↓reduceIte, ↓xjn_d, ↓xlt_d, eq_self, and_self, and_true, true_and, not_true, not_false_iff, ne_eq, true_or, or_true, or_false, false_or, nI_s, nI_leP, nI_eqP, y.l.1, ↓xb_eq (FX9_noModule_v y hl hk), y0.l.1, ↓xb_eq (FX9_kernelOf_v M gd), ↓xnn_e (y0.l.r3), y0.l.k3, y0.l.n3, xin_t, ↓xb_eq (e2), hz]
      · refine AG_v 0 ?_ (fun h' y => ?_)
        · have e2 : FX2_middle E (w + 14 + 3 * smu (zS Z) m) h = xv (cenS (nuS (zS Z) m) (sgt (zS Z) (smu (zS Z) m))) h := FX2_middle_v C.2.2.1.1 C.2.2.1.2.1
          unfold FX8_isCentral
          simp (disch := omega) only [↓xg, ↓reduceIte, ↓xjn_d, ↓xlt_d, eq_self, and_self, and_true, true_and, not_true, not_false_iff, ne_eq, true_or, or_true, or_false, false_or, nI_s, nI_leP, nI_eqP, x.k, ↓xb_eq (FX8_moduleAt_v x hl hk), C.k, ↓xb_eq (FX1_kernelSet_v C), ↓xnn_e (C.u), C.uk, ↓xb_eq (e2), hz]
        · have y0 := y.t 0
          have M := y0.1.1.ym hk
          have e2 : FX9_centreOf E Y (xi (yi h' Y 0 0) (Y + 3) (nI m).toNatClampNeg) (yi h' Y 0 0) = xv (cenS (nuS (zS Z) m) (sgt (zS Z) (smu (zS Z) m))) (yi h' Y 0 0) := by
            rw [xz_nI (by omega), M.2.1.1]; exact FX9_centreOf_v y0.l M.2.2.1.1
          unfold FX9_isCentral
          simp (disch := omega) only [↓xg, ↓reduceIte, ↓xjn_d, ↓xlt_d, eq_self, and_self, and_true, true_and, not_true, not_false_iff, ne_eq, true_or, or_true, or_false, false_or, nI_s, nI_leP, nI_eqP, y.l.1, ↓xb_eq (FX9_noModule_v y hl hk), y0.l.1, ↓xb_eq (FX9_kernelOf_v M gd), ↓xnn_e (y0.l.r3), y0.l.k3, y0.l.n3, xin_t, ↓xb_eq (e2), hz]
theorem ag_boundary (j : JJ h X Y O Z) (p q : Int32) : AGx X Y (cmT [0, 1]) h Z (FX8_boundary E X p q) (FX9_boundary E Y p q) := by
  obtain ⟨z, -, -, ⟨w, s, f, x⟩, y⟩ := j
  have bn := x.ci.1.1.1
  cases hl : zld Z
  · refine AG_x 0 1 0 ?_ (fun h' y => ?_) (by decide)
    · unfold FX8_boundary
      rw [xg_t x.k, FX8_moduleAt_0 x hl]
      first | rfl | (rw [xnn_e x.w5, xg_t x.k]; rfl)
    · unfold FX9_boundary
      simp (disch := omega) only [↓xg, ↓reduceIte, ↓xjn_d, ↓xlt_d, eq_self, and_self, and_true, true_and, not_true, not_false_iff, ne_eq, true_or, or_true, or_false, false_or, nI_s, nI_leP, nI_eqP, y.l.1, ↓xb_eq (FX9_noUpper_0 y hl p q), i1_0, nI_0]
      try rfl
  · cases hp : inr p (snm (zS Z))
    · refine AG_x 1 2 0 ?_ (fun h' y => ?_) (by decide)
      · unfold FX8_boundary
        rw [xg_t x.k, FX8_moduleAt_1 x hl hp]
        first | rfl | (rw [xnn_e x.w5, xg_t x.k]; rfl)
      · unfold FX9_boundary
        simp (disch := omega) only [↓xg, ↓reduceIte, ↓xjn_d, ↓xlt_d, eq_self, and_self, and_true, true_and, not_true, not_false_iff, ne_eq, true_or, or_true, or_false, false_or, nI_s, nI_leP, nI_eqP, y.l.1, ↓xb_eq (FX9_noUpper_1 y hl hp q), i1_0]
        try rfl
    · obtain ⟨m, hk, rfl⟩ := inr_of (by omega) hp
      have C := x.ci.cm hk
      have gd := x.ci.gd hk
      have wd := x.ci.wd hk
      have bm := y.bm hk
      have l8 : dnl (mdS (zS Z) (zT Z) m) ≤ 8 := bm.2.2.2.2
      have u8 : dnu (mdS (zS Z) (zT Z) m) ≤ 8 := bm.2.2.2.1
      cases hq : inr q (nuS (zS Z) m)
      · refine AG_x 1 2 0 ?_ (fun h' y => ?_) (by decide)
        · unfold FX8_boundary
          simp (disch := omega) only [↓xg, ↓reduceIte, ↓xjn_d, ↓xlt_d, eq_self, and_self, and_true, true_and, not_true, not_false_iff, ne_eq, true_or, or_true, or_false, false_or, nI_s, nI_leP, nI_eqP, x.k, ↓xb_eq (FX8_moduleAt_v x hl hk), C.k, ↓xnn_e (C.u), C.uk, ↓xb_eq (has_f C.2.2.1.1 C.2.2.1.2.1 hq), ↓dT0b, ↓dT1b, ↓dF0b, ↓dF1b, i1_0]
        · unfold FX9_boundary
          simp (disch := omega) only [↓xg, ↓reduceIte, ↓xjn_d, ↓xlt_d, eq_self, and_self, and_true, true_and, not_true, not_false_iff, ne_eq, true_or, or_true, or_false, false_or, nI_s, nI_leP, nI_eqP, y.l.1, ↓xb_eq (FX9_noUpper_2 y hl hk hq), i1_0]
          try rfl
      · obtain ⟨a, ha, rfl⟩ := inr_of (by omega) hq
        refine AG_v (nI (dbd (mdS (zS Z) (zT Z) m) a)) ?_ (fun h' y => ?_)
        · unfold FX8_boundary
          simp (disch := omega) only [↓xg, ↓reduceIte, ↓xjn_d, ↓xlt_d, eq_self, and_self, and_true, true_and, not_true, not_false_iff, ne_eq, true_or, or_true, or_false, false_or, nI_s, nI_leP, nI_eqP, x.k, ↓xb_eq (FX8_moduleAt_v x hl hk), C.k, ↓xnn_e (C.u), C.uk, ↓xb_eq (has_t C.2.2.1.1 C.2.2.1.2.1 ha), ↓dT0b, ↓dT1b, ↓dF0b, ↓dF1b, i1_0, ↓xb_eq (C.bd ha)]
        · have y0 := y.t 0
          have M := y0.1.1.ym hk
          unfold FX9_boundary
          simp (disch := omega) only [↓xg, ↓reduceIte, ↓xjn_d, ↓xlt_d, eq_self, and_self, and_true, true_and, not_true, not_false_iff, ne_eq, true_or, or_true, or_false, false_or, nI_s, nI_leP, nI_eqP, y.l.1, ↓xb_eq (FX9_noUpper_v y hl hk ha), y0.l.1, ↓xb_eq (FX9_boundaryOf_v M ha)]
theorem ag_fixed (j : JJ h X Y O Z) (p q : Int32) : AGx X Y (cmT [0, 1]) h Z (FX8_fixed E X p q) (FX9_fixed E Y p q) := by
  obtain ⟨z, -, -, ⟨w, s, f, x⟩, y⟩ := j
  have bn := x.ci.1.1.1
  cases hl : zld Z
  · refine AG_x 0 1 0 ?_ (fun h' y => ?_) (by decide)
    · unfold FX8_fixed
      rw [xg_t x.k, FX8_moduleAt_0 x hl]
      first | rfl | (rw [xnn_e x.w5, xg_t x.k]; rfl)
    · unfold FX9_fixed
      simp (disch := omega) only [↓xg, ↓reduceIte, ↓xjn_d, ↓xlt_d, eq_self, and_self, and_true, true_and, not_true, not_false_iff, ne_eq, true_or, or_true, or_false, false_or, nI_s, nI_leP, nI_eqP, y.l.1, ↓xb_eq (FX9_noUpper_0 y hl p q), i1_0, nI_0]
      try rfl
  · cases hp : inr p (snm (zS Z))
    · refine AG_x 1 2 0 ?_ (fun h' y => ?_) (by decide)
      · unfold FX8_fixed
        rw [xg_t x.k, FX8_moduleAt_1 x hl hp]
        first | rfl | (rw [xnn_e x.w5, xg_t x.k]; rfl)
      · unfold FX9_fixed
        simp (disch := omega) only [↓xg, ↓reduceIte, ↓xjn_d, ↓xlt_d, eq_self, and_self, and_true, true_and, not_true, not_false_iff, ne_eq, true_or, or_true, or_false, false_or, nI_s, nI_leP, nI_eqP, y.l.1, ↓xb_eq (FX9_noUpper_1 y hl hp q), i1_0]
        try rfl
    · obtain ⟨m, hk, rfl⟩ := inr_of (by omega) hp
      have C := x.ci.cm hk
      have gd := x.ci.gd hk
      have wd := x.ci.wd hk
      have bm := y.bm hk
      have l8 : dnl (mdS (zS Z) (zT Z) m) ≤ 8 := bm.2.2.2.2
      have u8 : dnu (mdS (zS Z) (zT Z) m) ≤ 8 := bm.2.2.2.1
      cases hq : inr q (nuS (zS Z) m)
      · refine AG_x 1 2 0 ?_ (fun h' y => ?_) (by decide)
        · unfold FX8_fixed
          simp (disch := omega) only [↓xg, ↓reduceIte, ↓xjn_d, ↓xlt_d, eq_self, and_self, and_true, true_and, not_true, not_false_iff, ne_eq, true_or, or_true, or_false, false_or, nI_s, nI_leP, nI_eqP, x.k, ↓xb_eq (FX8_moduleAt_v x hl hk), C.k, ↓xnn_e (C.u), C.uk, ↓xb_eq (has_f C.2.2.1.1 C.2.2.1.2.1 hq), ↓dT0b, ↓dT1b, ↓dF0b, ↓dF1b, i1_0]
        · unfold FX9_fixed
          simp (disch := omega) only [↓xg, ↓reduceIte, ↓xjn_d, ↓xlt_d, eq_self, and_self, and_true, true_and, not_true, not_false_iff, ne_eq, true_or, or_true, or_false, false_or, nI_s, nI_leP, nI_eqP, y.l.1, ↓xb_eq (FX9_noUpper_2 y hl hk hq), i1_0]
          try rfl
      · obtain ⟨a, ha, rfl⟩ := inr_of (by omega) hq
        refine AG_v (fixS (mdS (zS Z) (zT Z) m) a) ?_ (fun h' y => ?_)
        · unfold FX8_fixed
          simp (disch := omega) only [↓xg, ↓reduceIte, ↓xjn_d, ↓xlt_d, eq_self, and_self, and_true, true_and, not_true, not_false_iff, ne_eq, true_or, or_true, or_false, false_or, nI_s, nI_leP, nI_eqP, x.k, ↓xb_eq (FX8_moduleAt_v x hl hk), C.k, ↓xnn_e (C.u), C.uk, ↓xb_eq (has_t C.2.2.1.1 C.2.2.1.2.1 ha), ↓dT0b, ↓dT1b, ↓dF0b, ↓dF1b, i1_0, ↓xb_eq (FX1_stabilizer_v C ha)]
        · have y0 := y.t 0
          have M := y0.1.1.ym hk
          unfold FX9_fixed
          (try dsimp only); (rw [xg_t (y.l.1), xb_eq (FX9_noUpper_v y hl hk ha), if_pos rfl])
          generalize yi h' Y 0 0 = h2 at *
          refine xlp_all (fun i => (orI (fun g => if dac (mdS (zS Z) (zT Z) m) g a = a then sh g else 0) i, nI i)) (fun _ => h2) (nlS2 (zS Z) m) (by omega) (fun g hg ag => ?_) (fun ag => ?_)
          · have q := wd.2.2.2.2.2.2 g a hg ha
            have q2 : dac (mdS (zS Z) (zT Z) m) g a < nuS (zS Z) m := q
            (try dsimp only); (rw [xg_t (y0.l.1), xb_eq (FX9_lowers_v M), if_neg (show ¬ nI (dnl (mdS (zS Z) (zT Z) m)) ≤ nI g from nI_ge hg (by omega)), xg_t (y0.l.1), xb_eq (FX9_on_v M hg ha), xjn_d])
            rw [orI_s, nI_s]
            by_cases c : dac (mdS (zS Z) (zT Z) m) g a = a
            · rw [if_pos (show nI (dac (mdS (zS Z) (zT Z) m) g a) = nI a by rw [c]), if_pos c]
              rfl
            · rw [if_neg (show ¬ nI (dac (mdS (zS Z) (zT Z) m) g a) = nI a by rw [nI_eqP (by omega) (by omega)]; exact c), if_neg c]
              rfl
          · (try dsimp only); (rw [xg_t (y0.l.1), xb_eq (FX9_lowers_v M)])
            rw [if_pos (show nI (dnl (mdS (zS Z) (zT Z) m)) ≤ nI (nlS2 (zS Z) m) from Int32.le_refl _)]
            rfl
theorem ag_orbit (j : JJ h X Y O Z) (p q : Int32) : AGx X Y (cmT [0, 1]) h Z (FX8_orbit E X p q) (FX9_orbit E Y p q) := by
  obtain ⟨z, -, -, ⟨w, s, f, x⟩, y⟩ := j
  have bn := x.ci.1.1.1
  cases hl : zld Z
  · refine AG_x 0 1 0 ?_ (fun h' y => ?_) (by decide)
    · unfold FX8_orbit
      rw [xg_t x.k, FX8_moduleAt_0 x hl]
      first | rfl | (rw [xnn_e x.w5, xg_t x.k]; rfl)
    · unfold FX9_orbit
      simp (disch := omega) only [↓xg, ↓reduceIte, ↓xjn_d, ↓xlt_d, eq_self, and_self, and_true, true_and, not_true, not_false_iff, ne_eq, true_or, or_true, or_false, false_or, nI_s, nI_leP, nI_eqP, y.l.1, ↓xb_eq (FX9_noUpper_0 y hl p q), i1_0, nI_0]
      try rfl
  · cases hp : inr p (snm (zS Z))
    · refine AG_x 1 2 0 ?_ (fun h' y => ?_) (by decide)
      · unfold FX8_orbit
        rw [xg_t x.k, FX8_moduleAt_1 x hl hp]
        first | rfl | (rw [xnn_e x.w5, xg_t x.k]; rfl)
      · unfold FX9_orbit
        simp (disch := omega) only [↓xg, ↓reduceIte, ↓xjn_d, ↓xlt_d, eq_self, and_self, and_true, true_and, not_true, not_false_iff, ne_eq, true_or, or_true, or_false, false_or, nI_s, nI_leP, nI_eqP, y.l.1, ↓xb_eq (FX9_noUpper_1 y hl hp q), i1_0]
        try rfl
    · obtain ⟨m, hk, rfl⟩ := inr_of (by omega) hp
      have C := x.ci.cm hk
      have gd := x.ci.gd hk
      have wd := x.ci.wd hk
      have bm := y.bm hk
      have l8 : dnl (mdS (zS Z) (zT Z) m) ≤ 8 := bm.2.2.2.2
      have u8 : dnu (mdS (zS Z) (zT Z) m) ≤ 8 := bm.2.2.2.1
      cases hq : inr q (nuS (zS Z) m)
      · refine AG_x 1 2 0 ?_ (fun h' y => ?_) (by decide)
        · unfold FX8_orbit
          simp (disch := omega) only [↓xg, ↓reduceIte, ↓xjn_d, ↓xlt_d, eq_self, and_self, and_true, true_and, not_true, not_false_iff, ne_eq, true_or, or_true, or_false, false_or, nI_s, nI_leP, nI_eqP, x.k, ↓xb_eq (FX8_moduleAt_v x hl hk), C.k, ↓xnn_e (C.u), C.uk, ↓xb_eq (has_f C.2.2.1.1 C.2.2.1.2.1 hq), ↓dT0b, ↓dT1b, ↓dF0b, ↓dF1b, i1_0]
        · unfold FX9_orbit
          simp (disch := omega) only [↓xg, ↓reduceIte, ↓xjn_d, ↓xlt_d, eq_self, and_self, and_true, true_and, not_true, not_false_iff, ne_eq, true_or, or_true, or_false, false_or, nI_s, nI_leP, nI_eqP, y.l.1, ↓xb_eq (FX9_noUpper_2 y hl hk hq), i1_0]
          try rfl
      · obtain ⟨a, ha, rfl⟩ := inr_of (by omega) hq
        refine AG_v (orbS (mdS (zS Z) (zT Z) m) a) ?_ (fun h' y => ?_)
        · unfold FX8_orbit
          simp (disch := omega) only [↓xg, ↓reduceIte, ↓xjn_d, ↓xlt_d, eq_self, and_self, and_true, true_and, not_true, not_false_iff, ne_eq, true_or, or_true, or_false, false_or, nI_s, nI_leP, nI_eqP, x.k, ↓xb_eq (FX8_moduleAt_v x hl hk), C.k, ↓xnn_e (C.u), C.uk, ↓xb_eq (has_t C.2.2.1.1 C.2.2.1.2.1 ha), ↓dT0b, ↓dT1b, ↓dF0b, ↓dF1b, i1_0, ↓xb_eq (FX1_orbitSet_v C ha)]
        · have y0 := y.t 0
          have M := y0.1.1.ym hk
          unfold FX9_orbit
          (try dsimp only); (rw [xg_t (y.l.1), xb_eq (FX9_noUpper_v y hl hk ha), if_pos rfl])
          generalize yi h' Y 0 0 = h2 at *
          refine xlp_all (fun i => (orI (fun g => sh (dac (mdS (zS Z) (zT Z) m) g a)) i, nI i)) (fun _ => h2) (nlS2 (zS Z) m) (by omega) (fun g hg ag => ?_) (fun ag => ?_)
          · (try dsimp only); (rw [xg_t (y0.l.1), xb_eq (FX9_lowers_v M), if_neg (show ¬ nI (dnl (mdS (zS Z) (zT Z) m)) ≤ nI g from nI_ge hg (by omega)), xg_t (y0.l.1), xb_eq (FX9_on_v M hg ha), xlt_d, nI_s, sh_d, orI_s])
          · (try dsimp only); (rw [xg_t (y0.l.1), xb_eq (FX9_lowers_v M)])
            rw [if_pos (show nI (dnl (mdS (zS Z) (zT Z) m)) ≤ nI (nlS2 (zS Z) m) from Int32.le_refl _)]
            rfl
theorem ag_act (j : JJ h X Y O Z) (p q r : Int32) : AGx X Y (cmT [0, 1]) h Z (FX8_act E X p q r) (FX9_act E Y p q r) := by
  obtain ⟨z, -, -, ⟨w, s, f, x⟩, y⟩ := j
  have bn := x.ci.1.1.1
  cases hl : zld Z
  · refine AG_x 0 1 0 ?_ (fun h' y => ?_) (by decide)
    · unfold FX8_act
      rw [xg_t x.k, FX8_moduleAt_0 x hl]
      first | rfl | (rw [xnn_e x.w5, xg_t x.k]; rfl)
    · unfold FX9_act
      simp (disch := omega) only [↓xg, ↓reduceIte, ↓xjn_d, ↓xlt_d, eq_self, and_self, and_true, true_and, not_true, not_false_iff, ne_eq, true_or, or_true, or_false, false_or, nI_s, nI_leP, nI_eqP, y.l.1, ↓xb_eq (FX9_noLower_0 y hl p q), i1_0, nI_0]
      try rfl
  · cases hp : inr p (snm (zS Z))
    · refine AG_x 1 2 0 ?_ (fun h' y => ?_) (by decide)
      · unfold FX8_act
        rw [xg_t x.k, FX8_moduleAt_1 x hl hp]
        first | rfl | (rw [xnn_e x.w5, xg_t x.k]; rfl)
      · unfold FX9_act
        simp (disch := omega) only [↓xg, ↓reduceIte, ↓xjn_d, ↓xlt_d, eq_self, and_self, and_true, true_and, not_true, not_false_iff, ne_eq, true_or, or_true, or_false, false_or, nI_s, nI_leP, nI_eqP, y.l.1, ↓xb_eq (FX9_noLower_1 y hl hp q), i1_0]
        try rfl
    · obtain ⟨m, hk, rfl⟩ := inr_of (by omega) hp
      have C := x.ci.cm hk
      have gd := x.ci.gd hk
      have wd := x.ci.wd hk
      have bm := y.bm hk
      have l8 : dnl (mdS (zS Z) (zT Z) m) ≤ 8 := bm.2.2.2.2
      have u8 : dnu (mdS (zS Z) (zT Z) m) ≤ 8 := bm.2.2.2.1
      cases hq : inr q (nlS2 (zS Z) m)
      · refine AG_x 1 2 0 ?_ (fun h' y => ?_) (by decide)
        · unfold FX8_act
          simp (disch := omega) only [↓xg, ↓reduceIte, ↓xjn_d, ↓xlt_d, eq_self, and_self, and_true, true_and, not_true, not_false_iff, ne_eq, true_or, or_true, or_false, false_or, nI_s, nI_leP, nI_eqP, x.k, ↓xb_eq (FX8_moduleAt_v x hl hk), C.k, ↓xnn_e (C.l), C.lk, ↓xb_eq (has_f C.2.2.2.1.1 C.2.2.2.1.2.1 hq), ↓dT0b, ↓dT1b, ↓dF0b, ↓dF1b, i1_0]
        · unfold FX9_act
          simp (disch := omega) only [↓xg, ↓reduceIte, ↓xjn_d, ↓xlt_d, eq_self, and_self, and_true, true_and, not_true, not_false_iff, ne_eq, true_or, or_true, or_false, false_or, nI_s, nI_leP, nI_eqP, y.l.1, ↓xb_eq (FX9_noLower_2 y hl hk hq), i1_0]
          try rfl
      · obtain ⟨g, hg, rfl⟩ := inr_of (by omega) hq
        cases hr : inr r (nuS (zS Z) m)
        · refine AG_x 1 2 0 ?_ (fun h' y => ?_) (by decide)
          · unfold FX8_act
            simp (disch := omega) only [↓xg, ↓reduceIte, ↓xjn_d, ↓xlt_d, eq_self, and_self, and_true, true_and, not_true, not_false_iff, ne_eq, true_or, or_true, or_false, false_or, nI_s, nI_leP, nI_eqP, x.k, ↓xb_eq (FX8_moduleAt_v x hl hk), C.k, ↓xnn_e (C.l), C.lk, ↓xnn_e (C.u), C.uk, ↓xb_eq (has_t C.2.2.2.1.1 C.2.2.2.1.2.1 hg), ↓xb_eq (has_f C.2.2.1.1 C.2.2.1.2.1 hr), ↓dT0b, ↓dT1b, ↓dF0b, ↓dF1b, i1_0]
          · have y0 := y.t 0
            have e2 := FX9_noUpper_2 (E := E) y0 hl hk hr
            rw [yi_yi] at e2
            unfold FX9_act
            simp (disch := omega) only [↓xg, ↓reduceIte, ↓xjn_d, ↓xlt_d, eq_self, and_self, and_true, true_and, not_true, not_false_iff, ne_eq, true_or, or_true, or_false, false_or, nI_s, nI_leP, nI_eqP, y.l.1, ↓xb_eq (FX9_noLower_v y hl hk hg), y0.l.1, ↓xb_eq (e2), i1_0]
            try rfl
        · obtain ⟨a, ha, rfl⟩ := inr_of (by omega) hr
          refine AG_v (nI (tac (zT Z) m g a)) ?_ (fun h' y => ?_)
          · unfold FX8_act
            simp (disch := omega) only [↓xg, ↓reduceIte, ↓xjn_d, ↓xlt_d, eq_self, and_self, and_true, true_and, not_true, not_false_iff, ne_eq, true_or, or_true, or_false, false_or, nI_s, nI_leP, nI_eqP, x.k, ↓xb_eq (FX8_moduleAt_v x hl hk), C.k, ↓xnn_e (C.l), C.lk, ↓xnn_e (C.u), C.uk, ↓xb_eq (has_t C.2.2.2.1.1 C.2.2.2.1.2.1 hg), ↓xb_eq (has_t C.2.2.1.1 C.2.2.1.2.1 ha), ↓dT0b, ↓dT1b, ↓dF0b, ↓dF1b, i1_0, ↓xb_eq (C.ac hg ha)]
            rfl
          · have y0 := y.t 0
            have M := y0.1.1.ym hk
            have e2 := FX9_noUpper_v (E := E) y0 hl hk ha
            rw [yi_yi] at e2
            unfold FX9_act
            simp (disch := omega) only [↓xg, ↓reduceIte, ↓xjn_d, ↓xlt_d, eq_self, and_self, and_true, true_and, not_true, not_false_iff, ne_eq, true_or, or_true, or_false, false_or, nI_s, nI_leP, nI_eqP, y.l.1, ↓xb_eq (FX9_noLower_v y hl hk hg), y0.l.1, ↓xb_eq (e2), ↓xb_eq (FX9_on_v M hg ha)]
            rfl
theorem ag_lawful (j : JJ h X Y O Z) : AGx X Y (cmT [0]) h Z (FX8_lawful E X) (FX9_lawful E Y) := by
  obtain ⟨z, -, -, ⟨w, s, f, x⟩, y⟩ := j
  cases hl : zld Z
  · refine AG_x 0 1 0 ?_ (fun h' y => ?_) (by decide)
    · unfold FX8_lawful
      rw [xg_t x.k, FX8_demandText_0 x hl]
      rfl
    · unfold FX9_lawful
      simp (disch := omega) only [↓xg, ↓reduceIte, ↓xjn_d, ↓xlt_d, eq_self, and_self, and_true, true_and, not_true, not_false_iff, ne_eq, true_or, or_true, or_false, false_or, nI_s, nI_leP, nI_eqP, y.l.1, ↓xb_eq (FX9_notLoaded_0 y hl), i1_0]
      try rfl
  · refine AG_v (lawS (zS Z) (zT Z)) ?_ (fun h' y => ?_)
    · unfold FX8_lawful
      simp (disch := omega) only [↓xg, ↓reduceIte, ↓xjn_d, ↓xlt_d, eq_self, and_self, and_true, true_and, not_true, not_false_iff, ne_eq, true_or, or_true, or_false, false_or, nI_s, nI_leP, nI_eqP, x.k, ↓xb_eq (FX8_demandText_v x hl), ↓xnn_e (x.w5), x.wl.1, ↓xb_eq (FX7_lawfulModules_v x.ci)]
    · have y0 := y.t 0
      unfold FX9_lawful
      simp (disch := omega) only [↓xg, ↓reduceIte, ↓xjn_d, ↓xlt_d, eq_self, and_self, and_true, true_and, not_true, not_false_iff, ne_eq, true_or, or_true, or_false, false_or, nI_s, nI_leP, nI_eqP, y.l.1, ↓xb_eq (FX9_notLoaded_v y hl), y0.l.1, ↓xb_eq (FX9_lawfulNow_v y0.1.1)]
end AG
