/-! Class and reference answer alike: arrows, ladders, accounts. -/
set_option linter.unusedVariables false
section AG
variable {E : XG} {h : XH} {X Y O : Nat} {Z : ZD}
theorem YI.gde {h : XH} (y : YI h Y Z) {m : Nat} (hm : m < snm (zS Z)) : GD (mdS (zS Z) (zT Z) m) := y.1.1.gd hm
theorem ag_end (j : JJ h X Y O Z) (p q : Int32) : AGx X Y (cmT [0, 1]) h Z (FX8_end E X p q) (FX9_end E Y p q) := by
  obtain ⟨z, -, -, ⟨w, s, f, x⟩, y⟩ := j
  have bn := x.ci.1.1.1
  cases hl : zld Z
  · refine AG_x 0 1 0 ?_ (fun h' y => ?_) (by decide)
    · unfold FX8_end
      rw [xg_t x.k, FX8_arrowAt_0 x hl]
      first | rfl | (rw [xnn_e x.w5, xg_t x.k]; rfl)
    · unfold FX9_end
      simp (disch := omega) only [↓xg, ↓reduceIte, ↓xjn_d, ↓xlt_d, eq_self, and_self, and_true, true_and, not_true, not_false_iff, ne_eq, true_or, or_true, or_false, false_or, nI_s, nI_leP, nI_eqP, y.l.1, ↓xb_eq (FX9_noArrow_0 y hl p), i1_0, nI_0]
      try rfl
  · cases hp : inr p (sna (zS Z))
    · refine AG_x 1 2 0 ?_ (fun h' y => ?_) (by decide)
      · unfold FX8_end
        rw [xg_t x.k, FX8_arrowAt_1 x hl hp]
        first | rfl | (rw [xnn_e x.w5, xg_t x.k]; rfl)
      · unfold FX9_end
        simp (disch := omega) only [↓xg, ↓reduceIte, ↓xjn_d, ↓xlt_d, eq_self, and_self, and_true, true_and, not_true, not_false_iff, ne_eq, true_or, or_true, or_false, false_or, nI_s, nI_leP, nI_eqP, y.l.1, ↓xb_eq (FX9_noArrow_1 y hl hp), i1_0]
        try rfl
    · obtain ⟨a, hk, rfl⟩ := inr_of (by omega) hp
      have ba := y.ba hk
      have bm := y.bm ba.2.1
      have bo := y.bm ba.2.2
      have C := x.ci.ca hk
      have gd := x.ci.gd ba.2.1
      have ge := x.ci.gd ba.2.2
      have nf : xi h (w + 32 + 8 * saf (zS Z) a) 0 = nI (saf (zS Z) a) := x.ci.2.1.1.2.2 _ (by omega)
      have no : xi h (w + 32 + 8 * sao (zS Z) a) 0 = nI (sao (zS Z) a) := x.ci.2.1.1.2.2 _ (by omega)
      by_cases hq : q = 0
      · refine AG_v (nI (saf (zS Z) a)) ?_ (fun h' y => ?_)
        · unfold FX8_end
          simp (disch := omega) only [↓xg, ↓reduceIte, ↓xjn_d, ↓xlt_d, eq_self, and_self, and_true, true_and, not_true, not_false_iff, ne_eq, true_or, or_true, or_false, false_or, nI_s, nI_leP, nI_eqP, x.k, ↓xb_eq (FX8_arrowAt_v x hl hk), hq, C.k, ↓xnn_e (C.f), C.cf.k, nf]
        · have y0 := y.t 0
          unfold FX9_end
          simp (disch := omega) only [↓xg, ↓reduceIte, ↓xjn_d, ↓xlt_d, eq_self, and_self, and_true, true_and, not_true, not_false_iff, ne_eq, true_or, or_true, or_false, false_or, nI_s, nI_leP, nI_eqP, y.l.1, ↓xb_eq (FX9_noArrow_v y hl hk), hq, y0.l.1, ↓xnn_e (y0.l.r5), y0.l.k5, y0.l.n5, xin_t, xz_nI, (y0.1.1.ya hk).1.2.1]
      · refine AG_v (nI (sao (zS Z) a)) ?_ (fun h' y => ?_)
        · unfold FX8_end
          simp (disch := omega) only [↓xg, ↓reduceIte, ↓xjn_d, ↓xlt_d, eq_self, and_self, and_true, true_and, not_true, not_false_iff, ne_eq, true_or, or_true, or_false, false_or, nI_s, nI_leP, nI_eqP, x.k, ↓xb_eq (FX8_arrowAt_v x hl hk), hq, C.k, ↓xnn_e (C.o), C.co.k, no]
        · have y0 := y.t 0
          unfold FX9_end
          simp (disch := omega) only [↓xg, ↓reduceIte, ↓xjn_d, ↓xlt_d, eq_self, and_self, and_true, true_and, not_true, not_false_iff, ne_eq, true_or, or_true, or_false, false_or, nI_s, nI_leP, nI_eqP, y.l.1, ↓xb_eq (FX9_noArrow_v y hl hk), hq, y0.l.1, ↓xnn_e (y0.l.r6), y0.l.k6, y0.l.n6, xin_t, xz_nI, (y0.1.1.ya hk).1.2.2]
theorem ag_top (j : JJ h X Y O Z) (p q : Int32) : AGx X Y (cmT [0, 1]) h Z (FX8_top E X p q) (FX9_top E Y p q) := by
  obtain ⟨z, -, -, ⟨w, s, f, x⟩, y⟩ := j
  have bn := x.ci.1.1.1
  cases hl : zld Z
  · refine AG_x 0 1 0 ?_ (fun h' y => ?_) (by decide)
    · unfold FX8_top
      rw [xg_t x.k, FX8_arrowAt_0 x hl]
      first | rfl | (rw [xnn_e x.w5, xg_t x.k]; rfl)
    · unfold FX9_top
      simp (disch := omega) only [↓xg, ↓reduceIte, ↓xjn_d, ↓xlt_d, eq_self, and_self, and_true, true_and, not_true, not_false_iff, ne_eq, true_or, or_true, or_false, false_or, nI_s, nI_leP, nI_eqP, y.l.1, ↓xb_eq (FX9_noTop_0 y hl p q), i1_0, nI_0]
      try rfl
  · cases hp : inr p (sna (zS Z))
    · refine AG_x 1 2 0 ?_ (fun h' y => ?_) (by decide)
      · unfold FX8_top
        rw [xg_t x.k, FX8_arrowAt_1 x hl hp]
        first | rfl | (rw [xnn_e x.w5, xg_t x.k]; rfl)
      · unfold FX9_top
        simp (disch := omega) only [↓xg, ↓reduceIte, ↓xjn_d, ↓xlt_d, eq_self, and_self, and_true, true_and, not_true, not_false_iff, ne_eq, true_or, or_true, or_false, false_or, nI_s, nI_leP, nI_eqP, y.l.1, ↓xb_eq (FX9_noTop_1 y hl hp q), i1_0]
        try rfl
    · obtain ⟨a, hk, rfl⟩ := inr_of (by omega) hp
      have ba := y.ba hk
      have bm := y.bm ba.2.1
      have bo := y.bm ba.2.2
      have C := x.ci.ca hk
      have gd := x.ci.gd ba.2.1
      have ge := x.ci.gd ba.2.2
      cases hq : inr q (nuS (zS Z) (saf (zS Z) a))
      · refine AG_x 1 2 0 ?_ (fun h' y => ?_) (by decide)
        · unfold FX8_top
          simp (disch := omega) only [↓xg, ↓reduceIte, ↓xjn_d, ↓xlt_d, eq_self, and_self, and_true, true_and, not_true, not_false_iff, ne_eq, true_or, or_true, or_false, false_or, nI_s, nI_leP, nI_eqP, x.k, ↓xb_eq (FX8_arrowAt_v x hl hk), C.k, ↓xnn_e (C.f), C.cf.k, ↓xnn_e (C.cf.u), C.cf.uk, ↓xb_eq (has_f C.cf.2.2.1.1 C.cf.2.2.1.2.1 hq), ↓dT0b, ↓dT1b, ↓dF0b, ↓dF1b, i1_0]
        · unfold FX9_top
          simp (disch := omega) only [↓xg, ↓reduceIte, ↓xjn_d, ↓xlt_d, eq_self, and_self, and_true, true_and, not_true, not_false_iff, ne_eq, true_or, or_true, or_false, false_or, nI_s, nI_leP, nI_eqP, y.l.1, ↓xb_eq (FX9_noTop_2 y hl hk hq), i1_0]
          try rfl
      · obtain ⟨b, hb, rfl⟩ := inr_of (by omega) hq
        refine AG_v (nI (ttp (zT Z) a b)) ?_ (fun h' y => ?_)
        · unfold FX8_top
          simp (disch := omega) only [↓xg, ↓reduceIte, ↓xjn_d, ↓xlt_d, eq_self, and_self, and_true, true_and, not_true, not_false_iff, ne_eq, true_or, or_true, or_false, false_or, nI_s, nI_leP, nI_eqP, x.k, ↓xb_eq (FX8_arrowAt_v x hl hk), C.k, ↓xnn_e (C.f), C.cf.k, ↓xnn_e (C.cf.u), C.cf.uk, ↓xb_eq (has_t C.cf.2.2.1.1 C.cf.2.2.1.2.1 hb), ↓dT0b, ↓dT1b, ↓dF0b, ↓dF1b, i1_0, ↓xb_eq (C.tpv hb)]
        · have y0 := y.t 0
          unfold FX9_top
          simp (disch := omega) only [↓xg, ↓reduceIte, ↓xjn_d, ↓xlt_d, eq_self, and_self, and_true, true_and, not_true, not_false_iff, ne_eq, true_or, or_true, or_false, false_or, nI_s, nI_leP, nI_eqP, y.l.1, ↓xb_eq (FX9_noTop_v y hl hk hb), y0.l.1, ↓xb_eq (FX9_topOf_v (y0.1.1.ya hk) hb)]
theorem ag_bottom (j : JJ h X Y O Z) (p q : Int32) : AGx X Y (cmT [0, 1]) h Z (FX8_bottom E X p q) (FX9_bottom E Y p q) := by
  obtain ⟨z, -, -, ⟨w, s, f, x⟩, y⟩ := j
  have bn := x.ci.1.1.1
  cases hl : zld Z
  · refine AG_x 0 1 0 ?_ (fun h' y => ?_) (by decide)
    · unfold FX8_bottom
      rw [xg_t x.k, FX8_arrowAt_0 x hl]
      first | rfl | (rw [xnn_e x.w5, xg_t x.k]; rfl)
    · unfold FX9_bottom
      simp (disch := omega) only [↓xg, ↓reduceIte, ↓xjn_d, ↓xlt_d, eq_self, and_self, and_true, true_and, not_true, not_false_iff, ne_eq, true_or, or_true, or_false, false_or, nI_s, nI_leP, nI_eqP, y.l.1, ↓xb_eq (FX9_noBottom_0 y hl p q), i1_0, nI_0]
      try rfl
  · cases hp : inr p (sna (zS Z))
    · refine AG_x 1 2 0 ?_ (fun h' y => ?_) (by decide)
      · unfold FX8_bottom
        rw [xg_t x.k, FX8_arrowAt_1 x hl hp]
        first | rfl | (rw [xnn_e x.w5, xg_t x.k]; rfl)
      · unfold FX9_bottom
        simp (disch := omega) only [↓xg, ↓reduceIte, ↓xjn_d, ↓xlt_d, eq_self, and_self, and_true, true_and, not_true, not_false_iff, ne_eq, true_or, or_true, or_false, false_or, nI_s, nI_leP, nI_eqP, y.l.1, ↓xb_eq (FX9_noBottom_1 y hl hp q), i1_0]
        try rfl
    · obtain ⟨a, hk, rfl⟩ := inr_of (by omega) hp
      have ba := y.ba hk
      have bm := y.bm ba.2.1
      have bo := y.bm ba.2.2
      have C := x.ci.ca hk
      have gd := x.ci.gd ba.2.1
      have ge := x.ci.gd ba.2.2
      cases hq : inr q (nlS2 (zS Z) (saf (zS Z) a))
      · refine AG_x 1 2 0 ?_ (fun h' y => ?_) (by decide)
        · unfold FX8_bottom
          simp (disch := omega) only [↓xg, ↓reduceIte, ↓xjn_d, ↓xlt_d, eq_self, and_self, and_true, true_and, not_true, not_false_iff, ne_eq, true_or, or_true, or_false, false_or, nI_s, nI_leP, nI_eqP, x.k, ↓xb_eq (FX8_arrowAt_v x hl hk), C.k, ↓xnn_e (C.f), C.cf.k, ↓xnn_e (C.cf.l), C.cf.lk, ↓xb_eq (has_f C.cf.2.2.2.1.1 C.cf.2.2.2.1.2.1 hq), ↓dT0b, ↓dT1b, ↓dF0b, ↓dF1b, i1_0]
        · unfold FX9_bottom
          simp (disch := omega) only [↓xg, ↓reduceIte, ↓xjn_d, ↓xlt_d, eq_self, and_self, and_true, true_and, not_true, not_false_iff, ne_eq, true_or, or_true, or_false, false_or, nI_s, nI_leP, nI_eqP, y.l.1, ↓xb_eq (FX9_noBottom_2 y hl hk hq), i1_0]
          try rfl
      · obtain ⟨b, hb, rfl⟩ := inr_of (by omega) hq
        refine AG_v (nI (tbt (zT Z) a b)) ?_ (fun h' y => ?_)
        · unfold FX8_bottom
          simp (disch := omega) only [↓xg, ↓reduceIte, ↓xjn_d, ↓xlt_d, eq_self, and_self, and_true, true_and, not_true, not_false_iff, ne_eq, true_or, or_true, or_false, false_or, nI_s, nI_leP, nI_eqP, x.k, ↓xb_eq (FX8_arrowAt_v x hl hk), C.k, ↓xnn_e (C.f), C.cf.k, ↓xnn_e (C.cf.l), C.cf.lk, ↓xb_eq (has_t C.cf.2.2.2.1.1 C.cf.2.2.2.1.2.1 hb), ↓dT0b, ↓dT1b, ↓dF0b, ↓dF1b, i1_0, ↓xb_eq (C.btv hb)]
        · have y0 := y.t 0
          unfold FX9_bottom
          simp (disch := omega) only [↓xg, ↓reduceIte, ↓xjn_d, ↓xlt_d, eq_self, and_self, and_true, true_and, not_true, not_false_iff, ne_eq, true_or, or_true, or_false, false_or, nI_s, nI_leP, nI_eqP, y.l.1, ↓xb_eq (FX9_noBottom_v y hl hk hb), y0.l.1, ↓xb_eq (FX9_bottomOf_v (y0.1.1.ya hk) hb)]
theorem ag_arrowWhy (j : JJ h X Y O Z) (p : Int32) : AGx X Y (cmT [0, 1]) h Z (FX8_arrowWhy E X p) (FX9_arrowWhy E Y p) := by
  obtain ⟨z, -, -, ⟨w, s, f, x⟩, y⟩ := j
  have bn := x.ci.1.1.1
  cases hl : zld Z
  · refine AG_x 0 1 0 ?_ (fun h' y => ?_) (by decide)
    · unfold FX8_arrowWhy
      rw [xg_t x.k, FX8_arrowAt_0 x hl]
      first | rfl | (rw [xnn_e x.w5, xg_t x.k]; rfl)
    · unfold FX9_arrowWhy
      simp (disch := omega) only [↓xg, ↓reduceIte, ↓xjn_d, ↓xlt_d, eq_self, and_self, and_true, true_and, not_true, not_false_iff, ne_eq, true_or, or_true, or_false, false_or, nI_s, nI_leP, nI_eqP, y.l.1, ↓xb_eq (FX9_noArrow_0 y hl p), i1_0, nI_0]
      try rfl
  · cases hp : inr p (sna (zS Z))
    · refine AG_x 1 2 0 ?_ (fun h' y => ?_) (by decide)
      · unfold FX8_arrowWhy
        rw [xg_t x.k, FX8_arrowAt_1 x hl hp]
        first | rfl | (rw [xnn_e x.w5, xg_t x.k]; rfl)
      · unfold FX9_arrowWhy
        simp (disch := omega) only [↓xg, ↓reduceIte, ↓xjn_d, ↓xlt_d, eq_self, and_self, and_true, true_and, not_true, not_false_iff, ne_eq, true_or, or_true, or_false, false_or, nI_s, nI_leP, nI_eqP, y.l.1, ↓xb_eq (FX9_noArrow_1 y hl hp), i1_0]
        try rfl
    · obtain ⟨a, hk, rfl⟩ := inr_of (by omega) hp
      have ba := y.ba hk
      have bm := y.bm ba.2.1
      have bo := y.bm ba.2.2
      have C := x.ci.ca hk
      have gd := x.ci.gd ba.2.1
      have ge := x.ci.gd ba.2.2
      refine AG_v (nI (arS (mdS (zS Z) (zT Z) (saf (zS Z) a)) (mdS (zS Z) (zT Z) (sao (zS Z) a)) (ttp (zT Z) a) (tbt (zT Z) a))) ?_ (fun h' y => ?_)
      · unfold FX8_arrowWhy
        simp (disch := omega) only [↓xg, ↓reduceIte, ↓xjn_d, ↓xlt_d, eq_self, and_self, and_true, true_and, not_true, not_false_iff, ne_eq, true_or, or_true, or_false, false_or, nI_s, nI_leP, nI_eqP, x.k, ↓xb_eq (FX8_arrowAt_v x hl hk), C.k, ↓xb_eq (FX0_firstReason_v C)]
      · have y0 := y.t 0
        unfold FX9_arrowWhy
        simp (disch := omega) only [↓xg, ↓reduceIte, ↓xjn_d, ↓xlt_d, eq_self, and_self, and_true, true_and, not_true, not_false_iff, ne_eq, true_or, or_true, or_false, false_or, nI_s, nI_leP, nI_eqP, y.l.1, ↓xb_eq (FX9_noArrow_v y hl hk), y0.l.1, ↓xb_eq (FX9_whyArrow_v (y0.1.1.ya hk) gd ge)]
theorem ag_isEquivalence (j : JJ h X Y O Z) (p : Int32) : AGx X Y (cmT [0, 1]) h Z (FX8_isEquivalence E X p) (FX9_isEquivalence E Y p) := by
  obtain ⟨z, -, -, ⟨w, s, f, x⟩, y⟩ := j
  have bn := x.ci.1.1.1
  cases hl : zld Z
  · refine AG_x 0 1 0 ?_ (fun h' y => ?_) (by decide)
    · unfold FX8_isEquivalence
      rw [xg_t x.k, FX8_arrowAt_0 x hl]
      first | rfl | (rw [xnn_e x.w5, xg_t x.k]; rfl)
    · unfold FX9_isEquivalence
      simp (disch := omega) only [↓xg, ↓reduceIte, ↓xjn_d, ↓xlt_d, eq_self, and_self, and_true, true_and, not_true, not_false_iff, ne_eq, true_or, or_true, or_false, false_or, nI_s, nI_leP, nI_eqP, y.l.1, ↓xb_eq (FX9_noArrow_0 y hl p), i1_0, nI_0]
      try rfl
  · cases hp : inr p (sna (zS Z))
    · refine AG_x 1 2 0 ?_ (fun h' y => ?_) (by decide)
      · unfold FX8_isEquivalence
        rw [xg_t x.k, FX8_arrowAt_1 x hl hp]
        first | rfl | (rw [xnn_e x.w5, xg_t x.k]; rfl)
      · unfold FX9_isEquivalence
        simp (disch := omega) only [↓xg, ↓reduceIte, ↓xjn_d, ↓xlt_d, eq_self, and_self, and_true, true_and, not_true, not_false_iff, ne_eq, true_or, or_true, or_false, false_or, nI_s, nI_leP, nI_eqP, y.l.1, ↓xb_eq (FX9_noArrow_1 y hl hp), i1_0]
        try rfl
    · obtain ⟨a, hk, rfl⟩ := inr_of (by omega) hp
      have ba := y.ba hk
      have bm := y.bm ba.2.1
      have bo := y.bm ba.2.2
      have C := x.ci.ca hk
      have gd := x.ci.gd ba.2.1
      have ge := x.ci.gd ba.2.2
      refine AG_o (bI (eqA (zS Z) (zT Z) a)) ?_ (fun h' y => ?_)
      · unfold FX8_isEquivalence
        refine xo_g x.k (xo_eb (FX8_arrowAt_v x hl hk) (xo_g C.k (xo_b (FX0_joinsAlikePairs_o C (x.ci.ap hk) (fun z => ?_) gd ge) (fun v h4 q4 => ?_))))
        · rw [show saf (zS Z) a = sao (zS Z) a by omega]
        · obtain ⟨rfl, i4⟩ := q4
          exact xo_g (bI_01 _) (xo_v ⟨rfl, i4.wide (fun a z => by
            rcases z with z | z
            · exact x.rp (rPW_of (by omega) z)
            · exact x.rp (rPW_of (by omega) z))⟩)
      · have y0 := y.t 0
        unfold FX9_isEquivalence
        refine xo_g y.l.1 (xo_eb (FX9_noArrow_v y hl hk) (xo_jn (xo_jn (xo_t rfl (xo_g y0.l.1 (xo_b (FX9_isEqual_o (y0.1.1.ya hk) gd ge) (fun v h2 q2 => ?_)))))))
        obtain ⟨rfl, i2⟩ := q2
        have e0 : eqS (mdS (zS Z) (zT Z) (saf (zS Z) a)) (mdS (zS Z) (zT Z) (sao (zS Z) a)) (ttp (zT Z) a) (tbt (zT Z) a) = eqA (zS Z) (zT Z) a := rfl
        rw [e0]
        cases eqA (zS Z) (zT Z) a
        · exact xo_t rfl (xo_g (Or.inl rfl) (xo_v ⟨rfl, i2⟩))
        · exact xo_f (by decide) (xo_g (Or.inr rfl) (xo_v ⟨rfl, i2⟩))
theorem ag_equivalences (j : JJ h X Y O Z) : AGx X Y (cmT [0]) h Z (FX8_equivalences E X) (FX9_equivalences E Y) := by
  obtain ⟨z, -, -, ⟨w, s, f, x⟩, y⟩ := j
  cases hl : zld Z
  · refine AG_x 0 1 0 ?_ (fun h' y => ?_) (by decide)
    · unfold FX8_equivalences
      rw [xg_t x.k, FX8_demandText_0 x hl]
      rfl
    · unfold FX9_equivalences
      simp (disch := omega) only [↓xg, ↓reduceIte, ↓xjn_d, ↓xlt_d, eq_self, and_self, and_true, true_and, not_true, not_false_iff, ne_eq, true_or, or_true, or_false, false_or, nI_s, nI_leP, nI_eqP, y.l.1, ↓xb_eq (FX9_notLoaded_0 y hl), i1_0]
      try rfl
  · refine AG_o (eqsS (zS Z) (zT Z)) ?_ (fun h' y => ?_)
    · unfold FX8_equivalences
      refine xo_g x.k (xo_eb (FX8_demandText_v x hl) (xo_g x.k (xo_n x.w5 (xo_g x.wl.1 (xo_b (FX7_equivalenceSet_o x.ci) (fun v h4 q4 => ?_))))))
      obtain ⟨rfl, i4⟩ := q4
      exact xo_v ⟨rfl, i4.wide (fun a z => x.rp z)⟩
    · have y0 := y.t 0
      unfold FX9_equivalences
      refine xo_g y.l.1 (xo_eb (FX9_notLoaded_v y hl) (xo_jn (xo_t rfl (xo_g y0.l.1 (xo_b (FX9_allEqual_o y0.1.1) (fun v h2 q2 => ?_))))))
      obtain ⟨rfl, i2⟩ := q2
      exact xo_v ⟨rfl, i2⟩
-- ladders
theorem ow_up (S : SD) (b s : Int32) : sub s (owS S b s) := fld_up (fun a x => by
  split
  · exact sub_or
  · exact fun k hk => hk) s 0 (sna S) (by omega)
theorem ow_in {S : SD} (W : WS S) (b : Int32) {s : Int32} (hs : inB (snm S) s) : inB (snm S) (owS S b s) := by
  have h6 := W.1.2.1
  refine fld_in (P := inB (snm S)) (fun a x ha hx => ?_) hs (sna S) (Nat.le_refl _)
  obtain ⟨q1, q2⟩ := W.2.2.2 a ha
  by_cases c : (mb b a && (mb s (saf S a) || mb s (sao S a))) = true
  · rw [if_pos c]
    intro k hk
    rw [mb_or, mb_or, hx k hk, mb_sh (by omega), mb_sh (by omega)]
    simp
    omega
  · rw [if_neg c]; exact hx
theorem rc_s (S : SD) (b s : Int32) (i : Nat) : rcS S b s (i + 1) = owS S b (rcS S b s i) := rfl
/-- six steps reach no more than five -/
theorem rc_6 {S : SD} (W : WS S) (b : Int32) {m : Nat} (hm : m < snm S) : rcS S b (sh m) 6 = rcS S b (sh m) 5 := by
  have h6 := W.1.2.1
  have hin : ∀ i, inB (snm S) (rcS S b (sh m) i) := by
    intro i
    induction i with
    | zero => exact inB_sh hm (by omega)
    | succ i ih => exact ow_in W b ih
  obtain ⟨k, hk, hst⟩ := chain_stop (rcS S b (sh m)) (snm S) (fun i => ow_up S b _) hin
  have h1 : 1 ≤ cnt (rcS S b (sh m) 0) (snm S) := by
    show 1 ≤ cnt (sh m) (snm S)
    have e : cnt (0 ||| sh m) (snm S) = cnt 0 (snm S) + 1 := by
      rw [cnt_or 0 m (by omega), if_pos ⟨hm, mb_0 m⟩]
    have e2 : (0 : Int32) ||| sh m = sh m := mb_ext fun k _ => by rw [mb_or, mb_0, Bool.false_or]
    rw [e2] at e
    omega
  have s5 := fld_stable (g := owS S b) hst 5 (by omega)
  have s6 := fld_stable (g := owS S b) hst 6 (by omega)
  exact s6.trans s5.symm
def lkS (S : SD) (b : Int32) (m o : Nat) : Nat := fi 6 (fun k => mb (rcS S b (sh m) k) o)
def laS (S : SD) (b : Int32) (m o : Nat) : Int32 := if lkS S b m o < 6 then nI (lkS S b m o) else -1
theorem FX7_stepsBetween_v {w : Nat} {S : SD} {T : ST} (M : CI h w S T) {m o : Nat} (hm : m < snm S) (ho : o < snm S) (b : Int32) : FX7_stepsBetween E w (nI m) (nI o) b h = xv (laS S b m o) h := by
  have h6 := M.1.1.1.2.1
  have hle : lkS S b m o ≤ 6 := fi_le 6 (fun k => mb (rcS S b (sh m) k) o)
  unfold FX7_stepsBetween
  rw [xlt_d, sh_d]
  refine xlp_all (fun i => (rcS S b (sh m) i, nI i)) (fun _ => h) (lkS S b m o) (by omega) (fun i hi ag => ?_) (fun ag => ?_)
  · have h1 : mb (rcS S b (sh m) i) o = false := fi_not (P := fun k => mb (rcS S b (sh m) k) o) hi
    have hc : ¬ 6 ≤ i := by omega
    simp (disch := omega) only [↓xg, ↓reduceIte, ↓xjn_d, ↓xlt_d, eq_self, and_self, and_true, true_and, not_true, not_false_iff, ne_eq, true_or, or_true, or_false, false_or, nI_s, nI_leP, nI_eqP, li6, hc, ↓xb_eq (FX8_isIn_v (rcS S b (sh m) i) (show o < 32 by omega)), h1, bI_f, M.wl.1, ↓xb_eq (FX7_oneStepFrom_v M (rcS S b (sh m) i) b), rc_s]
  · unfold laS
    by_cases c : lkS S b m o < 6
    · have h1 : mb (rcS S b (sh m) (lkS S b m o)) o = true := fi_yes (P := fun k => mb (rcS S b (sh m) k) o) c
      have hc : ¬ 6 ≤ lkS S b m o := by omega
      simp (disch := omega) only [↓xg, ↓reduceIte, ↓xjn_d, ↓xlt_d, eq_self, and_self, and_true, true_and, not_true, not_false_iff, ne_eq, true_or, or_true, or_false, false_or, nI_s, nI_leP, nI_eqP, li6, hc, ↓xb_eq (FX8_isIn_v (rcS S b (sh m) (lkS S b m o)) (show o < 32 by omega)), h1, bI_t, i1_0, c]
    · have hc : 6 ≤ lkS S b m o := by omega
      simp (disch := omega) only [↓xg, ↓reduceIte, ↓xjn_d, ↓xlt_d, eq_self, and_self, and_true, true_and, not_true, not_false_iff, ne_eq, true_or, or_true, or_false, false_or, nI_s, nI_leP, nI_eqP, li6, hc, c]
theorem FX7_reachOf_v {w : Nat} {S : SD} {T : ST} (M : CI h w S T) {m : Nat} (b : Int32) : FX7_reachOf E w (nI m) b h = xv (rcS S b (sh m) 6) h := by
  unfold FX7_reachOf
  rw [xlt_d, sh_d]
  refine xlp_all (fun i => (rcS S b (sh m) i, nI i)) (fun _ => h) 6 (by omega) (fun i hi ag => ?_) (fun ag => ?_)
  · have hc : ¬ 6 ≤ i := by omega
    simp (disch := omega) only [↓xg, ↓reduceIte, ↓xjn_d, ↓xlt_d, eq_self, and_self, and_true, true_and, not_true, not_false_iff, ne_eq, true_or, or_true, or_false, false_or, nI_s, nI_leP, nI_eqP, li6, hc, M.wl.1, ↓xb_eq (FX7_oneStepFrom_v M (rcS S b (sh m) i) b), rc_s]
  · simp (disch := omega) only [↓xg, ↓reduceIte, ↓xjn_d, ↓xlt_d, eq_self, and_self, and_true, true_and, not_true, not_false_iff, ne_eq, true_or, or_true, or_false, false_or, nI_s, nI_leP, nI_eqP, li6, Int32.le_refl]
theorem ag_ladder (j : JJ h X Y O Z) (p q : Int32) : AGx X Y (cmT [0, 1]) h Z (FX8_ladder E X p q) (FX9_ladder E Y p q) := by
  obtain ⟨z, -, -, ⟨w, s, f, x⟩, y⟩ := j
  have bn := x.ci.1.1.1
  cases hl : zld Z
  · refine AG_x 0 1 0 ?_ (fun h' y => ?_) (by decide)
    · unfold FX8_ladder
      rw [xg_t x.k, FX8_moduleAt_0 x hl]
      first | rfl | (rw [xnn_e x.w5, xg_t x.k]; rfl)
    · unfold FX9_ladder
      simp (disch := omega) only [↓xg, ↓reduceIte, ↓xjn_d, ↓xlt_d, eq_self, and_self, and_true, true_and, not_true, not_false_iff, ne_eq, true_or, or_true, or_false, false_or, nI_s, nI_leP, nI_eqP, y.l.1, ↓xb_eq (FX9_noModule_0 y hl p), i1_0, nI_0]
      try rfl
  · cases hp : inr p (snm (zS Z))
    · refine AG_x 1 2 0 ?_ (fun h' y => ?_) (by decide)
      · unfold FX8_ladder
        rw [xg_t x.k, FX8_moduleAt_1 x hl hp]
        first | rfl | (rw [xnn_e x.w5, xg_t x.k]; rfl)
      · unfold FX9_ladder
        simp (disch := omega) only [↓xg, ↓reduceIte, ↓xjn_d, ↓xlt_d, eq_self, and_self, and_true, true_and, not_true, not_false_iff, ne_eq, true_or, or_true, or_false, false_or, nI_s, nI_leP, nI_eqP, y.l.1, ↓xb_eq (FX9_noModule_1 y hl hp), i1_0]
        try rfl
    · obtain ⟨m, hk, rfl⟩ := inr_of (by omega) hp
      have bm := y.bm hk
      have C := x.ci.cm hk
      cases hq : inr q (snm (zS Z))
      · refine AG_x 1 2 0 ?_ (fun h' y => ?_) (by decide)
        · unfold FX8_ladder
          rw [xg_t x.k, xb_eq (FX8_moduleAt_v x hl hk)]
          try dsimp only
          rw [xg_t x.k, FX8_moduleAt_1 x hl hq]
          rfl
        · have y0 := y.t 0
          have e2 := FX9_noModule_1 (E := E) y0 hl hq
          rw [yi_yi] at e2
          unfold FX9_ladder
          simp (disch := omega) only [↓xg, ↓reduceIte, ↓xjn_d, ↓xlt_d, eq_self, and_self, and_true, true_and, not_true, not_false_iff, ne_eq, true_or, or_true, or_false, false_or, nI_s, nI_leP, nI_eqP, y.l.1, ↓xb_eq (FX9_noModule_v y hl hk), y0.l.1, ↓xb_eq (e2), i1_0]
          try rfl
      · obtain ⟨n, hn, rfl⟩ := inr_of (by omega) hq
        have bm2 := y.bm hn
        have D := x.ci.cm hn
        refine AG_o (laS (zS Z) (eqsS (zS Z) (zT Z)) m n) ?_ (fun h' y => ?_)
        · unfold FX8_ladder
          refine xo_g x.k (xo_eb (FX8_moduleAt_v x hl hk) (xo_g x.k (xo_eb (FX8_moduleAt_v x hl hn) (xo_g x.k (xo_n x.w5 (xo_g C.k (xo_g D.k (xo_g x.k (xo_n x.w5 (xo_g x.wl.1 (xo_b (FX7_equivalenceSet_o x.ci) (fun v h4 q4 => ?_))))))))))))
          obtain ⟨rfl, i4⟩ := q4
          have i4 : iw (rXP X) h h4 := i4.wide (fun a z => x.rp z)
          have x4 := XI_iw x i4 (fun a z => Or.inr (Or.inr z))
          have n1 : xi h (w + 32 + 8 * m) 0 = nI m := x.ci.2.1.1.2.2 _ (by omega)
          have n2 : xi h (w + 32 + 8 * n) 0 = nI n := x.ci.2.1.1.2.2 _ (by omega)
          refine xo_g x4.wl.1 ?_
          rw [n1, n2]
          exact xo_eb (FX7_stepsBetween_v x4.ci hk hn _) (xo_v ⟨rfl, i4⟩)
        · have y0 := y.t 0
          have e2 := FX9_noModule_v (E := E) y0 hl hn
          rw [yi_yi] at e2
          unfold FX9_ladder
          refine xo_g y.l.1 (xo_eb (FX9_noModule_v y hl hk) (xo_jn (xo_t rfl (xo_g y0.l.1 (xo_eb e2 (xo_t rfl (xo_g y0.l.1 (xo_b (FX9_allEqual_o y0.1.1) (fun v h2 q2 => ?_)))))))))
          obtain ⟨rfl, i2⟩ := q2
          have y2 := YI_iw y0 i2 (fun a z => by unfold rEq at z; omega)
          refine xo_e (v := laS (zS Z) (eqsS (zS Z) (zT Z)) m n) (h := h2) ?_ ⟨rfl, i2⟩
          rw [xlt_d, sh_d]
          generalize eqsS (zS Z) (zT Z) = b
          have hle : lkS (zS Z) b m n ≤ 6 := fi_le 6 (fun k => mb (rcS (zS Z) b (sh m) k) n)
          have h6 := rc_6 y.ws b hk
          unfold laS
          by_cases c : lkS (zS Z) b m n < 6
          · rw [if_pos c]
            refine xlp_all (fun i => (rcS (zS Z) b (sh m) i, nI i)) (fun _ => h2) (lkS (zS Z) b m n) (by omega) (fun i hi ag => ?_) (fun ag => ?_)
            · have h1 : mb (rcS (zS Z) b (sh m) i) n = false := fi_not (P := fun k => mb (rcS (zS Z) b (sh m) k) n) hi
              have hc : ¬ 6 < i := by omega
              simp (disch := omega) only [↓xg, ↓reduceIte, ↓xjn_d, ↓xlt_d, eq_self, and_self, and_true, true_and, not_true, not_false_iff, ne_eq, true_or, or_true, or_false, false_or, nI_s, nI_leP, nI_eqP, li6, nI_ltP, hc, ↓xb_eq (FX9_has_v (rcS (zS Z) b (sh m) i) (show n < 32 by omega)), h1, bI_f, y2.l.1, ↓xb_eq (FX9_onward_v y2.1.1 (rcS (zS Z) b (sh m) i) b), rc_s]
            · have h1 : mb (rcS (zS Z) b (sh m) (lkS (zS Z) b m n)) n = true := fi_yes (P := fun k => mb (rcS (zS Z) b (sh m) k) n) c
              have hc : ¬ 6 < lkS (zS Z) b m n := by omega
              simp (disch := omega) only [↓xg, ↓reduceIte, ↓xjn_d, ↓xlt_d, eq_self, and_self, and_true, true_and, not_true, not_false_iff, ne_eq, true_or, or_true, or_false, false_or, nI_s, nI_leP, nI_eqP, li6, nI_ltP, hc, ↓xb_eq (FX9_has_v (rcS (zS Z) b (sh m) (lkS (zS Z) b m n)) (show n < 32 by omega)), h1, bI_t, i1_0]
          · rw [if_neg c]
            have e6 : lkS (zS Z) b m n = 6 := by omega
            refine xlp_all (fun i => (rcS (zS Z) b (sh m) i, nI i)) (fun _ => h2) 7 (by omega) (fun i hi ag => ?_) (fun ag => ?_)
            · have h1 : mb (rcS (zS Z) b (sh m) i) n = false := by
                by_cases z : i = 6
                · rw [z, h6]; exact fi_not (P := fun k => mb (rcS (zS Z) b (sh m) k) n) (show 5 < lkS (zS Z) b m n by omega)
                · exact fi_not (P := fun k => mb (rcS (zS Z) b (sh m) k) n) (show i < lkS (zS Z) b m n by omega)
              have hc : ¬ 6 < i := by omega
              simp (disch := omega) only [↓xg, ↓reduceIte, ↓xjn_d, ↓xlt_d, eq_self, and_self, and_true, true_and, not_true, not_false_iff, ne_eq, true_or, or_true, or_false, false_or, nI_s, nI_leP, nI_eqP, li6, nI_ltP, hc, ↓xb_eq (FX9_has_v (rcS (zS Z) b (sh m) i) (show n < 32 by omega)), h1, bI_f, y2.l.1, ↓xb_eq (FX9_onward_v y2.1.1 (rcS (zS Z) b (sh m) i) b), rc_s]
            · have hc : (6 : Int32) < nI 7 := by decide
              simp (disch := omega) only [↓xg, ↓reduceIte, ↓xjn_d, ↓xlt_d, eq_self, and_self, and_true, true_and, not_true, not_false_iff, ne_eq, true_or, or_true, or_false, false_or, nI_s, nI_leP, nI_eqP, hc]
theorem ag_joined (j : JJ h X Y O Z) (p : Int32) : AGx X Y (cmT [0, 1]) h Z (FX8_joined E X p) (FX9_joined E Y p) := by
  obtain ⟨z, -, -, ⟨w, s, f, x⟩, y⟩ := j
  have bn := x.ci.1.1.1
  cases hl : zld Z
  · refine AG_x 0 1 0 ?_ (fun h' y => ?_) (by decide)
    · unfold FX8_joined
      rw [xg_t x.k, FX8_moduleAt_0 x hl]
      first | rfl | (rw [xnn_e x.w5, xg_t x.k]; rfl)
    · unfold FX9_joined
      simp (disch := omega) only [↓xg, ↓reduceIte, ↓xjn_d, ↓xlt_d, eq_self, and_self, and_true, true_and, not_true, not_false_iff, ne_eq, true_or, or_true, or_false, false_or, nI_s, nI_leP, nI_eqP, y.l.1, ↓xb_eq (FX9_noModule_0 y hl p), i1_0, nI_0]
      try rfl
  · cases hp : inr p (snm (zS Z))
    · refine AG_x 1 2 0 ?_ (fun h' y => ?_) (by decide)
      · unfold FX8_joined
        rw [xg_t x.k, FX8_moduleAt_1 x hl hp]
        first | rfl | (rw [xnn_e x.w5, xg_t x.k]; rfl)
      · unfold FX9_joined
        simp (disch := omega) only [↓xg, ↓reduceIte, ↓xjn_d, ↓xlt_d, eq_self, and_self, and_true, true_and, not_true, not_false_iff, ne_eq, true_or, or_true, or_false, false_or, nI_s, nI_leP, nI_eqP, y.l.1, ↓xb_eq (FX9_noModule_1 y hl hp), i1_0]
        try rfl
    · obtain ⟨m, hk, rfl⟩ := inr_of (by omega) hp
      have bm := y.bm hk
      have C := x.ci.cm hk
      refine AG_o (rcS (zS Z) (eqsS (zS Z) (zT Z)) (sh m) 6) ?_ (fun h' y => ?_)
      · unfold FX8_joined
        refine xo_g x.k (xo_eb (FX8_moduleAt_v x hl hk) (xo_g x.k (xo_n x.w5 (xo_g C.k (xo_g x.k (xo_n x.w5 (xo_g x.wl.1 (xo_b (FX7_equivalenceSet_o x.ci) (fun v h4 q4 => ?_)))))))))
        obtain ⟨rfl, i4⟩ := q4
        have i4 : iw (rXP X) h h4 := i4.wide (fun a z => x.rp z)
        have x4 := XI_iw x i4 (fun a z => Or.inr (Or.inr z))
        have n1 : xi h (w + 32 + 8 * m) 0 = nI m := x.ci.2.1.1.2.2 _ (by omega)
        refine xo_g x4.wl.1 ?_
        rw [n1]
        exact xo_eb (FX7_reachOf_v x4.ci _) (xo_v ⟨rfl, i4⟩)
      · have y0 := y.t 0
        unfold FX9_joined
        refine xo_g y.l.1 (xo_eb (FX9_noModule_v y hl hk) (xo_t rfl (xo_g y0.l.1 (xo_b (FX9_allEqual_o y0.1.1) (fun v h2 q2 => ?_)))))
        obtain ⟨rfl, i2⟩ := q2
        have y2 := YI_iw y0 i2 (fun a z => by unfold rEq at z; omega)
        refine xo_e (v := rcS (zS Z) (eqsS (zS Z) (zT Z)) (sh m) 6) (h := h2) ?_ ⟨rfl, i2⟩
        rw [xlt_d, sh_d]
        generalize eqsS (zS Z) (zT Z) = b
        refine xlp_all (fun i => (rcS (zS Z) b (sh m) i, nI i)) (fun _ => h2) 6 (by omega) (fun i hi ag => ?_) (fun ag => ?_)
        · have hc : ¬ 6 ≤ i := by omega
          simp (disch := omega) only [↓xg, ↓reduceIte, ↓xjn_d, ↓xlt_d, eq_self, and_self, and_true, true_and, not_true, not_false_iff, ne_eq, true_or, or_true, or_false, false_or, nI_s, nI_leP, nI_eqP, li6, hc, y2.l.1, ↓xb_eq (FX9_onward_v y2.1.1 (rcS (zS Z) b (sh m) i) b), rc_s]
        · simp (disch := omega) only [↓xg, ↓reduceIte, ↓xjn_d, ↓xlt_d, eq_self, and_self, and_true, true_and, not_true, not_false_iff, ne_eq, true_or, or_true, or_false, false_or, nI_s, nI_leP, nI_eqP, li6, Int32.le_refl]
theorem ag_through (j : JJ h X Y O Z) (p q r : Int32) : AGx X Y (cmT [0, 1, 2]) h Z (FX8_through E X p q r) (FX9_through E Y p q r) := by
  obtain ⟨z, -, -, ⟨w, s, f, x⟩, y⟩ := j
  have bn := x.ci.1.1.1
  cases hl : zld Z
  · refine AG_x 0 1 0 ?_ (fun h' y => ?_) (by decide)
    · unfold FX8_through
      rw [xg_t x.k, FX8_arrowAt_0 x hl]
      first | rfl | (rw [xnn_e x.w5, xg_t x.k]; rfl)
    · unfold FX9_through
      simp (disch := omega) only [↓xg, ↓reduceIte, ↓xjn_d, ↓xlt_d, eq_self, and_self, and_true, true_and, not_true, not_false_iff, ne_eq, true_or, or_true, or_false, false_or, nI_s, nI_leP, nI_eqP, y.l.1, ↓xb_eq (FX9_noTop_0 y hl p r), i1_0, nI_0]
      try rfl
  · cases hp : inr p (sna (zS Z))
    · refine AG_x 1 2 0 ?_ (fun h' y => ?_) (by decide)
      · unfold FX8_through
        rw [xg_t x.k, FX8_arrowAt_1 x hl hp]
        first | rfl | (rw [xnn_e x.w5, xg_t x.k]; rfl)
      · unfold FX9_through
        simp (disch := omega) only [↓xg, ↓reduceIte, ↓xjn_d, ↓xlt_d, eq_self, and_self, and_true, true_and, not_true, not_false_iff, ne_eq, true_or, or_true, or_false, false_or, nI_s, nI_leP, nI_eqP, y.l.1, ↓xb_eq (FX9_noTop_1 y hl hp r), i1_0]
        try rfl
    · obtain ⟨a, hk, rfl⟩ := inr_of (by omega) hp
      have ba := y.ba hk
      have bm := y.bm ba.2.1
      have bo := y.bm ba.2.2
      have C := x.ci.ca hk
      have gd := x.ci.gd ba.2.1
      have ge := x.ci.gd ba.2.2
      have nf : ∀ {b : Nat}, b < snm (zS Z) → xi h (w + 32 + 8 * b) 0 = nI b := fun hb => x.ci.2.1.1.2.2 _ (by omega)
      cases hq : inr q (sna (zS Z))
      · refine AG_x 1 2 0 ?_ (fun h' y => ?_) (by decide)
        · unfold FX8_through
          rw [xg_t x.k, xb_eq (FX8_arrowAt_v x hl hk)]
          try dsimp only
          rw [xg_t x.k, FX8_arrowAt_1 x hl hq]
          rfl
        · have y0 := y.t 0
          unfold FX9_through
          cases hr : inr r (nuS (zS Z) (saf (zS Z) a))
          · simp (disch := omega) only [↓xg, ↓reduceIte, ↓xjn_d, ↓xlt_d, eq_self, and_self, and_true, true_and, not_true, not_false_iff, ne_eq, true_or, or_true, or_false, false_or, nI_s, nI_leP, nI_eqP, y.l.1, ↓xb_eq (FX9_noTop_2 y hl hk hr), i1_0]
            try rfl
          · obtain ⟨b, hb, rfl⟩ := inr_of (by omega) hr
            have e2 := FX9_noArrow_1 (E := E) y0 hl hq
            rw [yi_yi] at e2
            simp (disch := omega) only [↓xg, ↓reduceIte, ↓xjn_d, ↓xlt_d, eq_self, and_self, and_true, true_and, not_true, not_false_iff, ne_eq, true_or, or_true, or_false, false_or, nI_s, nI_leP, nI_eqP, y.l.1, ↓xb_eq (FX9_noTop_v y hl hk hb), y0.l.1, ↓xb_eq (e2), i1_0]
            try rfl
      · obtain ⟨a2, hk2, rfl⟩ := inr_of (by omega) hq
        have ba2 := y.ba hk2
        have bm2 := y.bm ba2.2.1
        have D := x.ci.ca hk2
        cases hr : inr r (nuS (zS Z) (saf (zS Z) a))
        · refine AG_x 1 2 0 ?_ (fun h' y => ?_) (by decide)
          · unfold FX8_through
            simp (disch := omega) only [↓xg, ↓reduceIte, ↓xjn_d, ↓xlt_d, eq_self, and_self, and_true, true_and, not_true, not_false_iff, ne_eq, true_or, or_true, or_false, false_or, nI_s, nI_leP, nI_eqP, x.k, ↓xb_eq (FX8_arrowAt_v x hl hk), ↓xb_eq (FX8_arrowAt_v x hl hk2), C.k, ↓xnn_e (C.f), C.cf.k, ↓xnn_e (C.cf.u), C.cf.uk, ↓xb_eq (has_f C.cf.2.2.1.1 C.cf.2.2.1.2.1 hr), ↓dT0b, ↓dT1b, ↓dF0b, ↓dF1b, i1_0]
          · unfold FX9_through
            simp (disch := omega) only [↓xg, ↓reduceIte, ↓xjn_d, ↓xlt_d, eq_self, and_self, and_true, true_and, not_true, not_false_iff, ne_eq, true_or, or_true, or_false, false_or, nI_s, nI_leP, nI_eqP, y.l.1, ↓xb_eq (FX9_noTop_2 y hl hk hr), i1_0]
            try rfl
        · obtain ⟨b, hb, rfl⟩ := inr_of (by omega) hr
          by_cases hf : sao (zS Z) a = saf (zS Z) a2
          · have q1 : ttp (zT Z) a b < nuS (zS Z) (sao (zS Z) a) := x.ci.1.2.2.2.1 a b hk hb
            have q2 : ttp (zT Z) a b < nuS (zS Z) (saf (zS Z) a2) := by rw [← hf]; exact q1
            refine AG_v (nI (ttp (zT Z) a2 (ttp (zT Z) a b))) ?_ (fun h' y => ?_)
            · unfold FX8_through
              simp (disch := omega) only [↓xg, ↓reduceIte, ↓xjn_d, ↓xlt_d, eq_self, and_self, and_true, true_and, not_true, not_false_iff, ne_eq, true_or, or_true, or_false, false_or, nI_s, nI_leP, nI_eqP, x.k, ↓xb_eq (FX8_arrowAt_v x hl hk), ↓xb_eq (FX8_arrowAt_v x hl hk2), C.k, D.k, ↓xnn_e (C.f), ↓xnn_e (C.o), ↓xnn_e (D.f), C.cf.k, C.co.k, D.cf.k, ↓xnn_e (C.cf.u), C.cf.uk, ↓xb_eq (has_t C.cf.2.2.1.1 C.cf.2.2.1.2.1 hb), ↓dT0b, ↓dT1b, ↓dF0b, ↓dF1b, i1_0, nf ba.2.2, nf ba2.2.1, hf, ↓xb_eq (C.tpv hb), ↓xb_eq (D.tpv q2)]
            · have y0 := y.t 0
              have e2 := FX9_noArrow_v (E := E) y0 hl hk2
              rw [yi_yi] at e2
              unfold FX9_through
              simp (disch := omega) only [↓xg, ↓reduceIte, ↓xjn_d, ↓xlt_d, eq_self, and_self, and_true, true_and, not_true, not_false_iff, ne_eq, true_or, or_true, or_false, false_or, nI_s, nI_leP, nI_eqP, y.l.1, ↓xb_eq (FX9_noTop_v y hl hk hb), y0.l.1, ↓xb_eq (e2), ↓xnn_e (y0.l.r5), ↓xnn_e (y0.l.r6), y0.l.k5, y0.l.k6, y0.l.n5, y0.l.n6, xin_t, xz_nI, (y0.1.1.ya hk).1.2.2, (y0.1.1.ya hk2).1.2.1, hf, ↓xb_eq (FX9_refuse_0 y.l 3), ↓xb_eq (FX9_topOf_v (y0.1.1.ya hk) hb), ↓xb_eq (FX9_topOf_v (y0.1.1.ya hk2) q2)]
          · have hf2 : ¬ saf (zS Z) a2 = sao (zS Z) a := fun z => hf z.symm
            refine AG_x 2 3 0 ?_ (fun h' y => ?_) (by decide)
            · unfold FX8_through
              simp (disch := omega) only [↓xg, ↓reduceIte, ↓xjn_d, ↓xlt_d, eq_self, and_self, and_true, true_and, not_true, not_false_iff, ne_eq, true_or, or_true, or_false, false_or, nI_s, nI_leP, nI_eqP, x.k, ↓xb_eq (FX8_arrowAt_v x hl hk), ↓xb_eq (FX8_arrowAt_v x hl hk2), C.k, D.k, ↓xnn_e (C.f), ↓xnn_e (C.o), ↓xnn_e (D.f), C.cf.k, C.co.k, D.cf.k, ↓xnn_e (C.cf.u), C.cf.uk, ↓xb_eq (has_t C.cf.2.2.1.1 C.cf.2.2.1.2.1 hb), ↓dT0b, ↓dT1b, ↓dF0b, ↓dF1b, i1_0, nf ba.2.2, nf ba2.2.1, hf]
            · have y0 := y.t 0
              have e2 := FX9_noArrow_v (E := E) y0 hl hk2
              rw [yi_yi] at e2
              unfold FX9_through
              simp (disch := omega) only [↓xg, ↓reduceIte, ↓xjn_d, ↓xlt_d, eq_self, and_self, and_true, true_and, not_true, not_false_iff, ne_eq, true_or, or_true, or_false, false_or, nI_s, nI_leP, nI_eqP, y.l.1, ↓xb_eq (FX9_noTop_v y hl hk hb), y0.l.1, ↓xb_eq (e2), ↓xnn_e (y0.l.r5), ↓xnn_e (y0.l.r6), y0.l.k5, y0.l.k6, y0.l.n5, y0.l.n6, xin_t, xz_nI, (y0.1.1.ya hk).1.2.2, (y0.1.1.ya hk2).1.2.1, hf2, ↓xb_eq (FX9_refuse_1 y.l (c := 3) (by decide)), i1_0]
              try rfl
theorem in_02 {h : XH} (p : Int32) : FX9_in E p 0 2 h = xv (bI (inr p 3)) h := FX9_in_v (n := 3) p (by omega)
theorem ag_account (j : JJ h X Y O Z) (p : Int32) : AGx X Y (cmT [0, 2]) h Z (FX8_account E X p) (FX9_account E Y p) := by
  obtain ⟨z, -, -, ⟨w, s, f, x⟩, y⟩ := j
  cases hl : zld Z
  · refine AG_x 0 1 0 ?_ (fun h' y => ?_) (by decide)
    · unfold FX8_account
      rw [xg_t x.k, FX8_demandText_0 x hl]
      rfl
    · unfold FX9_account
      simp (disch := omega) only [↓xg, ↓reduceIte, ↓xjn_d, ↓xlt_d, eq_self, and_self, and_true, true_and, not_true, not_false_iff, ne_eq, true_or, or_true, or_false, false_or, nI_s, nI_leP, nI_eqP, y.l.1, ↓xb_eq (FX9_notLoaded_0 y hl), i1_0]
      try rfl
  · cases hp : inr p 3
    · refine AG_x 2 2 0 ?_ (fun h' y => ?_) (by decide)
      · unfold FX8_account
        rcases inr_no hp with c | ⟨c1, c2⟩
        · simp (disch := omega) only [↓xg, ↓reduceIte, ↓xjn_d, ↓xlt_d, eq_self, and_self, and_true, true_and, not_true, not_false_iff, ne_eq, true_or, or_true, or_false, false_or, nI_s, nI_leP, nI_eqP, x.k, ↓xb_eq (FX8_demandText_v x hl), c, ↓dT0b, ↓dT1b, ↓dF0b, ↓dF1b, i1_0]
        · simp (disch := omega) only [↓xg, ↓reduceIte, ↓xjn_d, ↓xlt_d, eq_self, and_self, and_true, true_and, not_true, not_false_iff, ne_eq, true_or, or_true, or_false, false_or, nI_s, nI_leP, nI_eqP, x.k, ↓xb_eq (FX8_demandText_v x hl), c1, li3, c2, ↓dT0b, ↓dT1b, ↓dF0b, ↓dF1b, i1_0]
      · have y0 := y.t 0
        have e1 := in_02 (E := E) (h := yi h' Y 0 0) p
        rw [hp] at e1
        have e1 : FX9_in E p 0 2 (yi h' Y 0 0) = xv 0 (yi h' Y 0 0) := e1
        unfold FX9_account
        simp (disch := omega) only [↓xg, ↓reduceIte, ↓xjn_d, ↓xlt_d, eq_self, and_self, and_true, true_and, not_true, not_false_iff, ne_eq, true_or, or_true, or_false, false_or, nI_s, nI_leP, nI_eqP, y.l.1, ↓xb_eq (FX9_notLoaded_v y hl), ↓xb_eq (e1), y0.l.1, ↓xb_eq (FX9_refuse_1 y.l (c := 2) (by decide)), i1_0]
        try rfl
    · obtain ⟨k, hk, rfl⟩ := inr_of (by omega) hp
      have c1 : ¬ nI k < (0 : Int32) := by rw [nI_lt0 (by omega)]; exact id
      have c2 : ¬ 3 ≤ k := by omega
      refine AG_v (tcc (zT Z) k) ?_ (fun h' y => ?_)
      · unfold FX8_account
        simp (disch := omega) only [↓xg, ↓reduceIte, ↓xjn_d, ↓xlt_d, eq_self, and_self, and_true, true_and, not_true, not_false_iff, ne_eq, true_or, or_true, or_false, false_or, nI_s, nI_leP, nI_eqP, x.k, ↓xb_eq (FX8_demandText_v x hl), c1, li3, c2, ↓dT0b, ↓dT1b, ↓dF0b, ↓dF1b, i1_0, ↓xnn_e (x.w5), x.wl.1, ↓xnn_e (x.wl.r13), ↓xb_eq (FX8_at_in x.wl.k13 x.wl.n13 hk (by omega)), x.ci.2.2.2.2.2.2.2 k hk]
      · have y0 := y.t 0
        have e1 := in_02 (E := E) (h := yi h' Y 0 0) (nI k)
        rw [hp] at e1
        have e1 : FX9_in E (nI k) 0 2 (yi h' Y 0 0) = xv 1 (yi h' Y 0 0) := e1
        have e3 := y0.1.1.2.2.2.2.2.2.2 k hk
        rw [Nat.zero_add] at e3
        unfold FX9_account
        simp (disch := omega) only [↓xg, ↓reduceIte, ↓xjn_d, ↓xlt_d, eq_self, and_self, and_true, true_and, not_true, not_false_iff, ne_eq, true_or, or_true, or_false, false_or, nI_s, nI_leP, nI_eqP, y.l.1, ↓xb_eq (FX9_notLoaded_v y hl), ↓xb_eq (e1), y0.l.1, ↓xb_eq (FX9_refuse_0 y.l 2), i1_0, ↓xnn_e (y0.l.r8), y0.l.k8, y0.l.n8, li560, nI_a, xin_t, xz_nI, e3]
theorem ag_parseError (j : JJ h X Y O Z) : AGx X Y cmS h Z (FX8_parseError E X) (FX9_parseError E Y) := by
  obtain ⟨z, -, -, ⟨w, s, f, x⟩, y⟩ := j
  refine AG_v (zer Z) ?_ (fun h' y => ?_)
  · unfold FX8_parseError
    rw [xg_t x.k, x.2.2.2.1.1]
  · have y0 := y.t 0
    unfold FX9_parseError
    rw [xg_t y.l.1, xlt_d, xg_t y0.l.1, y0.2.1.2.1]
theorem ag_errorPosition (j : JJ h X Y O Z) : AGx X Y cmS h Z (FX8_errorPosition E X) (FX9_errorPosition E Y) := by
  obtain ⟨z, -, -, ⟨w, s, f, x⟩, y⟩ := j
  refine AG_v (zea Z) ?_ (fun h' y => ?_)
  · unfold FX8_errorPosition
    rw [xg_t x.k, x.2.2.2.1.2.1]
  · have y0 := y.t 0
    unfold FX9_errorPosition
    rw [xg_t y.l.1, xlt_d, xg_t y0.l.1, y0.2.1.2.2]
theorem ag_buffered (j : JJ h X Y O Z) : AGx X Y cmS h Z (FX8_buffered E X) (FX9_buffered E Y) := by
  obtain ⟨z, -, -, ⟨w, s, f, x⟩, y⟩ := j
  refine AG_v (nI (zfl Z)) ?_ (fun h' y => ?_)
  · unfold FX8_buffered
    rw [xg_t x.k, x.2.2.1.1]
  · have y0 := y.t 0
    unfold FX9_buffered
    rw [xg_t y.l.1, xlt_d, xg_t y0.l.1, y0.2.2.2.2.1.1]
theorem ag_undoable (j : JJ h X Y O Z) : AGx X Y cmS h Z (FX8_undoable E X) (FX9_undoable E Y) := by
  obtain ⟨z, -, -, ⟨w, s, f, x⟩, y⟩ := j
  refine AG_v (nI (zun Z)) ?_ (fun h' y => ?_)
  · unfold FX8_undoable
    rw [xg_t x.k, x.2.2.2.2.1.1.2.2]
  · have y0 := y.t 0
    have e1 := y0.2.1.1
    unfold FX9_undoable
    cases hl : zld Z
    · rw [hl] at e1
      have e2 := z.1 hl
      simp (disch := omega) only [↓xg, ↓reduceIte, ↓xjn_d, ↓xlt_d, eq_self, and_self, and_true, true_and, not_true, not_false_iff, ne_eq, true_or, or_true, or_false, false_or, nI_s, nI_leP, nI_eqP, y.l.1, y0.l.1, e1, bI_f, e2, nI_0]
    · rw [hl] at e1
      simp (disch := omega) only [↓xg, ↓reduceIte, ↓xjn_d, ↓xlt_d, eq_self, and_self, and_true, true_and, not_true, not_false_iff, ne_eq, true_or, or_true, or_false, false_or, nI_s, nI_leP, nI_eqP, y.l.1, y0.l.1, e1, bI_t, i1_0, y0.2.2.1.1]
theorem ag_textByte (j : JJ h X Y O Z) (p : Int32) : AGx X Y (cmT [1]) h Z (FX8_textByte E X p) (FX9_textByte E Y p) := by
  obtain ⟨z, -, -, ⟨w, s, f, x⟩, y⟩ := j
  obtain ⟨z71, zt⟩ := z.2.2.2.2.2
  obtain ⟨r12, k12, n12⟩ := x.1.1.2.2.2.2.2.2
  have t1 := x.2.2.2.2.2.2.1
  cases hp : inr p (ztl Z)
  · refine AG_x 1 1 0 ?_ (fun h' y => ?_) (by decide)
    · unfold FX8_textByte
      rcases inr_no hp with c | ⟨c1, c2⟩
      · simp (disch := omega) only [↓xg, ↓reduceIte, ↓xjn_d, ↓xlt_d, eq_self, and_self, and_true, true_and, not_true, not_false_iff, ne_eq, true_or, or_true, or_false, false_or, nI_s, nI_leP, nI_eqP, c, ↓dT0b, ↓dT1b, ↓dF0b, ↓dF1b, i1_0]
      · simp (disch := omega) only [↓xg, ↓reduceIte, ↓xjn_d, ↓xlt_d, eq_self, and_self, and_true, true_and, not_true, not_false_iff, ne_eq, true_or, or_true, or_false, false_or, nI_s, nI_leP, nI_eqP, x.k, c1, t1, c2, ↓dT0b, ↓dT1b, ↓dF0b, ↓dF1b, i1_0]
    · have y0 := y.t 0
      have e1 : FX9_in E p 0 (xi (yi h' Y 0 0) Y 43 - 1) (yi h' Y 0 0) = xv 0 (yi h' Y 0 0) := by rw [y0.2.2.2.2.2.1]; exact in_f (by omega) hp
      unfold FX9_textByte
      simp (disch := omega) only [↓xg, ↓reduceIte, ↓xjn_d, ↓xlt_d, eq_self, and_self, and_true, true_and, not_true, not_false_iff, ne_eq, true_or, or_true, or_false, false_or, nI_s, nI_leP, nI_eqP, y.l.1, y0.l.1, ↓xb_eq (e1), ↓xb_eq (FX9_refuse_1 y.l (c := 1) (by decide)), i1_0]
      try rfl
  · obtain ⟨k, hk, rfl⟩ := inr_of (by omega) hp
    have c1 : ¬ nI k < (0 : Int32) := by rw [nI_lt0 (by omega)]; exact id
    have c2 : ¬ ztl Z ≤ k := by omega
    have c3 : ¬ 71 ≤ k := by omega
    refine AG_v (nI (ztx Z k)) ?_ (fun h' y => ?_)
    · unfold FX8_textByte
      simp (disch := omega) only [↓xg, ↓reduceIte, ↓xjn_d, ↓xlt_d, eq_self, and_self, and_true, true_and, not_true, not_false_iff, ne_eq, true_or, or_true, or_false, false_or, nI_s, nI_leP, nI_eqP, x.k, c1, t1, c2, ↓xnn_e (r12), k12, n12, ofNat_nI, c3, ↓dT0b, ↓dT1b, ↓dF0b, ↓dF1b, i1_0, xin_t, xz_nI, x.2.2.2.2.2.2.2 k hk]
    · have y0 := y.t 0
      have e1 : FX9_in E (nI k) 0 (xi (yi h' Y 0 0) Y 43 - 1) (yi h' Y 0 0) = xv 1 (yi h' Y 0 0) := by rw [y0.2.2.2.2.2.1]; exact in_t (by omega) hk
      unfold FX9_textByte
      simp (disch := omega) only [↓xg, ↓reduceIte, ↓xjn_d, ↓xlt_d, eq_self, and_self, and_true, true_and, not_true, not_false_iff, ne_eq, true_or, or_true, or_false, false_or, nI_s, nI_leP, nI_eqP, y.l.1, y0.l.1, ↓xb_eq (e1), ↓xb_eq (FX9_refuse_0 y.l 1), i1_0, ↓xnn_e (y0.l.r24), y0.l.k24, y0.l.n24, xin_t, xz_nI, y0.2.2.2.2.2.2 k hk]
end AG
