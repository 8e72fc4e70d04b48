/-! Class and reference answer alike: profiles, which are alike, large groups. -/
set_option linter.unusedVariables false
section AG
variable {E : XG} {h : XH} {X Y O : Nat} {Z : ZD}
theorem md_d {a n g : Nat} (h : g < n) : (a * n + g) / n = a := by
  rw [Nat.mul_comm, Nat.mul_add_div (by omega), Nat.div_eq_of_lt h, Nat.add_zero]
theorem md_m {a n g : Nat} (h : g < n) : (a * n + g) % n = g := by
  rw [Nat.mul_comm, Nat.mul_add_mod, Nat.mod_eq_of_lt h]
theorem in_18 {h : XH} {k : Nat} (h1 : 1 ≤ k) (h8 : k ≤ 8) : FX9_in E (nI k) 1 8 h = xv 1 h := by
  have c1 : ¬ nI k < (1 : Int32) := by rw [show (1 : Int32) = nI 1 from rfl, nI_ltP (by omega) (by omega)]; omega
  have c2 : ¬ (8 : Int32) < nI k := by rw [li8, nI_ltP (by omega) (by omega)]; omega
  unfold FX9_in
  simp (disch := omega) only [↓xg, ↓reduceIte, ↓xjn_d, ↓xlt_d, eq_self, and_self, and_true, true_and, not_true, not_false_iff, ne_eq, true_or, or_true, or_false, false_or, nI_s, nI_leP, nI_eqP, c1, c2]
theorem in_18f {h : XH} {p : Int32} (hp : p < 1 ∨ (¬ p < 1 ∧ 8 < p)) : FX9_in E p 1 8 h = xv 0 h := by
  unfold FX9_in
  rcases hp with c | ⟨c1, c2⟩
  · simp (disch := omega) only [↓xg, ↓reduceIte, ↓xjn_d, ↓xlt_d, eq_self, and_self, and_true, true_and, not_true, not_false_iff, ne_eq, true_or, or_true, or_false, false_or, nI_s, nI_leP, nI_eqP, c]
  · simp (disch := omega) only [↓xg, ↓reduceIte, ↓xjn_d, ↓xlt_d, eq_self, and_self, and_true, true_and, not_true, not_false_iff, ne_eq, true_or, or_true, or_false, false_or, nI_s, nI_leP, nI_eqP, c1, c2]
theorem ag_profile (j : JJ h X Y O Z) (p q r : Int32) : AGx X Y (cmT [0, 1, 2]) h Z (FX8_profile E X p q r) (FX9_profile E Y p q r) := by
  obtain ⟨z, -, -, ⟨w, s, f, x⟩, y⟩ := j
  have bn := x.ci.1.1.1
  cases hl : zld Z
  · refine AG_x 0 1 0 ?_ (fun h' y => ?_) (by decide)
    · unfold FX8_profile
      rw [xg_t x.k, FX8_lawfulModuleAt_0 x hl]
      first | rfl | (rw [xnn_e x.w5, xg_t x.k]; rfl)
    · unfold FX9_profile
      simp (disch := omega) only [↓xg, ↓reduceIte, ↓xjn_d, ↓xlt_d, eq_self, and_self, and_true, true_and, not_true, not_false_iff, ne_eq, true_or, or_true, or_false, false_or, nI_s, nI_leP, nI_eqP, y.l.1, ↓xb_eq (FX9_notLawful_0 y hl p), i1_0, nI_0]
      try rfl
  · cases hp : inr p (snm (zS Z))
    · refine AG_x 1 2 0 ?_ (fun h' y => ?_) (by decide)
      · unfold FX8_profile
        rw [xg_t x.k, FX8_lawfulModuleAt_1 x hl hp]
        first | rfl | (rw [xnn_e x.w5, xg_t x.k]; rfl)
      · unfold FX9_profile
        simp (disch := omega) only [↓xg, ↓reduceIte, ↓xjn_d, ↓xlt_d, eq_self, and_self, and_true, true_and, not_true, not_false_iff, ne_eq, true_or, or_true, or_false, false_or, nI_s, nI_leP, nI_eqP, y.l.1, ↓xb_eq (FX9_notLawful_1 y hl hp), i1_0]
        try rfl
    · obtain ⟨m, hk, rfl⟩ := inr_of (by omega) hp
      by_cases hw : whS (zS Z) (zT Z) m = 0
      · have bm := y.bm hk
        have L := x.lw hk hw
        have c8 := ccN_8 L
        have C := x.ci.cm hk
        by_cases hr : r < 1 ∨ (¬ r < 1 ∧ 8 < r)
        · refine AG_x 2 3 0 ?_ (fun h' y => ?_) (by decide)
          · unfold FX8_profile
            rcases hr with c | ⟨c1, c2⟩
            · simp (disch := omega) only [↓xg, ↓reduceIte, ↓xjn_d, ↓xlt_d, eq_self, and_self, and_true, true_and, not_true, not_false_iff, ne_eq, true_or, or_true, or_false, false_or, nI_s, nI_leP, nI_eqP, x.k, ↓xb_eq (FX8_lawfulModuleAt_v x hl hk hw), c, ↓dT0b, ↓dT1b, ↓dF0b, ↓dF1b, i1_0]
            · simp (disch := omega) only [↓xg, ↓reduceIte, ↓xjn_d, ↓xlt_d, eq_self, and_self, and_true, true_and, not_true, not_false_iff, ne_eq, true_or, or_true, or_false, false_or, nI_s, nI_leP, nI_eqP, x.k, ↓xb_eq (FX8_lawfulModuleAt_v x hl hk hw), c1, c2, ↓dT0b, ↓dT1b, ↓dF0b, ↓dF1b, i1_0]
          · have y0 := y.t 0
            unfold FX9_profile
            simp (disch := omega) only [↓xg, ↓reduceIte, ↓xjn_d, ↓xlt_d, eq_self, and_self, and_true, true_and, not_true, not_false_iff, ne_eq, true_or, or_true, or_false, false_or, nI_s, nI_leP, nI_eqP, y.l.1, ↓xb_eq (FX9_notLawful_v y hl hk hw), ↓xb_eq (in_18f hr), y0.l.1, ↓xb_eq (FX9_refuse_1 y.l (c := 3) (by decide)), i1_0]
            try rfl
        · have h1 : ¬ r < 1 := fun z => hr (Or.inl z)
          have h2 : ¬ (8 : Int32) < r := fun z => hr (Or.inr ⟨h1, z⟩)
          have h0 : ¬ r < 0 := fun z => h1 (by
            rw [Int32.lt_iff_toInt_lt] at z ⊢
            have e1 : (1 : Int32).toInt = 1 := by decide
            have e2 : (0 : Int32).toInt = 0 := by decide
            omega)
          obtain ⟨k, hk2, rfl⟩ := nI_of h0
          have k1 : 1 ≤ k := by
            rw [show (1 : Int32) = nI 1 from rfl, nI_ltP (by omega) (by omega)] at h1; omega
          have k8 : k ≤ 8 := by
            rw [li8, nI_ltP (by omega) (by omega)] at h2; omega
          by_cases hq : q = 0
          · subst hq
            refine AG_o (koS (mdS (zS Z) (zT Z) m) k) ?_ (fun h' y => ?_)
            · unfold FX8_profile
              refine xo_g x.k (xo_eb (FX8_lawfulModuleAt_v x hl hk hw) (xo_jn (xo_jn (xo_f h1 (xo_f h2 ?_)))))
              try dsimp only
              rw [dF1b]
              refine xo_g C.k (xo_b (fresh_o x hk hw) (fun v h4 q4 => ?_))
              obtain ⟨rfl, i4, x4, p4⟩ := q4
              have C4 := x4.ci.cm hk
              refine xo_jn (xo_t rfl (xo_g C4.pk (xo_n C4.p2.1 (xo_eb (FX8_at_in C4.p2.2.1 C4.p2.2.2 (show k < 9 by omega) (by omega)) (xo_v ⟨p4.2.1 k (by omega), i4⟩)))))
            · have y0 := y.t 0
              unfold FX9_profile
              refine xo_e (v := koS (mdS (zS Z) (zT Z) m) k) (h := yi h' Y 0 0) ?_ ⟨rfl, iw.refl _ _⟩
              simp (disch := omega) only [↓xg, ↓reduceIte, ↓xjn_d, ↓xlt_d, eq_self, and_self, and_true, true_and, not_true, not_false_iff, ne_eq, true_or, or_true, or_false, false_or, nI_s, nI_leP, nI_eqP, y.l.1, ↓xb_eq (FX9_notLawful_v y hl hk hw), ↓xb_eq (in_18 k1 k8), y0.l.1, ↓xb_eq (FX9_refuse_0 y.l 3), i1_0, ↓xb_eq (FX9_profileOf_k (y0.1.1.ym hk) L.2.1 k8)]
          · refine AG_o (coS (mdS (zS Z) (zT Z) m) k) ?_ (fun h' y => ?_)
            · unfold FX8_profile
              refine xo_g x.k (xo_eb (FX8_lawfulModuleAt_v x hl hk hw) (xo_jn (xo_jn (xo_f h1 (xo_f h2 ?_)))))
              try dsimp only
              rw [dF1b]
              refine xo_g C.k (xo_b (fresh_o x hk hw) (fun v h4 q4 => ?_))
              obtain ⟨rfl, i4, x4, p4⟩ := q4
              have C4 := x4.ci.cm hk
              refine xo_jn (xo_f hq (xo_g C4.pk (xo_n C4.p3.1 (xo_eb (FX8_at_in C4.p3.2.1 C4.p3.2.2 (show k < 9 by omega) (by omega)) (xo_v ⟨p4.2.2 k (by omega), i4⟩)))))
            · have y0 := y.t 0
              have e0 : FX9_profileOf E Y (nI m) q (nI k) (yi h' Y 0 0) = FX9_profileOf E Y (nI m) 1 (nI k) (yi h' Y 0 0) := by
                unfold FX9_profileOf
                rw [if_neg hq, if_neg (show ¬ (1 : Int32) = 0 by decide)]
              unfold FX9_profile
              refine xo_g y.l.1 (xo_eb (FX9_notLawful_v y hl hk hw) (xo_jn (xo_jn (xo_t rfl (xo_eb (in_18 k1 k8) (xo_jn (xo_f (by decide) ?_)))))))
              try dsimp only
              refine xo_g y0.l.1 (xo_eb (FX9_refuse_0 y.l 3) (xo_t rfl (xo_g y0.l.1 ?_)))
              rw [e0]
              refine xo_b (FX9_profileOf_c (y0.1.1.ym hk) L k8) (fun v h2 q2 => ?_)
              obtain ⟨rfl, i2⟩ := q2
              exact xo_v ⟨rfl, i2.wide (fun a z => by unfold rCl at z; unfold rEq; omega)⟩
      · refine AG_x 2 3 0 ?_ (fun h' y => ?_) (by decide)
        · unfold FX8_profile
          rw [xg_t x.k, FX8_lawfulModuleAt_2 x hl hk hw]
          first | rfl | (rw [xnn_e x.w5, xg_t x.k]; rfl)
        · unfold FX9_profile
          simp (disch := omega) only [↓xg, ↓reduceIte, ↓xjn_d, ↓xlt_d, eq_self, and_self, and_true, true_and, not_true, not_false_iff, ne_eq, true_or, or_true, or_false, false_or, nI_s, nI_leP, nI_eqP, y.l.1, ↓xb_eq (FX9_notLawful_2 y hl hk hw), i1_0]
          try rfl
theorem ag_areAlike (j : JJ h X Y O Z) (p q : Int32) : AGx X Y (cmT [0, 1, 2]) h Z (FX8_areAlike E X p q) (FX9_areAlike E Y p q) := by
  obtain ⟨z, -, -, ⟨w, s, f, x⟩, y⟩ := j
  have bn := x.ci.1.1.1
  cases hl : zld Z
  · refine AG_x 0 1 0 ?_ (fun h' y => ?_) (by decide)
    · unfold FX8_areAlike
      rw [xg_t x.k, FX8_moduleAt_0 x hl]
      first | rfl | (rw [xnn_e x.w5, xg_t x.k]; rfl)
    · unfold FX9_areAlike
      simp (disch := omega) only [↓xg, ↓reduceIte, ↓xjn_d, ↓xlt_d, eq_self, and_self, and_true, true_and, not_true, not_false_iff, ne_eq, true_or, or_true, or_false, false_or, nI_s, nI_leP, nI_eqP, y.l.1, ↓xb_eq (FX9_noModule_0 y hl p), i1_0, nI_0]
      try rfl
  · cases hp : inr p (snm (zS Z))
    · refine AG_x 1 2 0 ?_ (fun h' y => ?_) (by decide)
      · unfold FX8_areAlike
        rw [xg_t x.k, FX8_moduleAt_1 x hl hp]
        first | rfl | (rw [xnn_e x.w5, xg_t x.k]; rfl)
      · unfold FX9_areAlike
        simp (disch := omega) only [↓xg, ↓reduceIte, ↓xjn_d, ↓xlt_d, eq_self, and_self, and_true, true_and, not_true, not_false_iff, ne_eq, true_or, or_true, or_false, false_or, nI_s, nI_leP, nI_eqP, y.l.1, ↓xb_eq (FX9_noModule_1 y hl hp), i1_0]
        try rfl
    · obtain ⟨m, hk, rfl⟩ := inr_of (by omega) hp
      have bm := y.bm hk
      have C := x.ci.cm hk
      have hw5 := whS_le (zS Z) (zT Z) m
      cases hq : inr q (snm (zS Z))
      · refine AG_x 1 2 0 ?_ (fun h' y => ?_) (by decide)
        · unfold FX8_areAlike
          rw [xg_t x.k, xb_eq (FX8_moduleAt_v x hl hk)]
          try dsimp only
          rw [xg_t x.k, FX8_moduleAt_1 x hl hq]
          rfl
        · have y0 := y.t 0
          have e2 := FX9_noModule_1 (E := E) y0 hl hq
          rw [yi_yi] at e2
          unfold FX9_areAlike
          simp (disch := omega) only [↓xg, ↓reduceIte, ↓xjn_d, ↓xlt_d, eq_self, and_self, and_true, true_and, not_true, not_false_iff, ne_eq, true_or, or_true, or_false, false_or, nI_s, nI_leP, nI_eqP, y.l.1, ↓xb_eq (FX9_noModule_v y hl hk), y0.l.1, ↓xb_eq (e2), i1_0]
          try rfl
      · obtain ⟨n, hn, rfl⟩ := inr_of (by omega) hq
        have bm2 := y.bm hn
        have D := x.ci.cm hn
        have hw6 := whS_le (zS Z) (zT Z) n
        by_cases hw : whS (zS Z) (zT Z) m = 0 ∧ whS (zS Z) (zT Z) n = 0
        · have L := x.lw hk hw.1
          have L' := x.lw hn hw.2
          refine AG_o (bI (alS (mdS (zS Z) (zT Z) m) (mdS (zS Z) (zT Z) n))) ?_ (fun h' y => ?_)
          · unfold FX8_areAlike
            refine xo_g x.k (xo_eb (FX8_moduleAt_v x hl hk) (xo_g x.k (xo_eb (FX8_moduleAt_v x hl hn) (xo_g C.k (xo_jn (xo_jn ?_))))))
            rw [x.re hk, hw.1]
            refine xo_t rfl (xo_g D.k ?_)
            rw [x.re hn, hw.2]
            refine xo_t rfl ?_
            try dsimp only
            rw [dF1b]
            refine xo_g C.k (xo_b (fresh_o x hk hw.1) (fun v h4 q4 => ?_))
            obtain ⟨rfl, i4, x4, p4⟩ := q4
            have apn := x4.ci.apm hn
            refine xo_g (x4.ci.cm hn).k (xo_b (FX1_freshPair_o (x4.ci.cm hn) (x4.lw hn hw.2) apn.1 apn.2) (fun v h5 q5 => ?_))
            obtain ⟨rfl, i5, p5⟩ := q5
            have p6 : PR h5 (w + 32 + 8 * m) (mdS (zS Z) (zT Z) m) := by
              by_cases e : m = n
              · rw [e]; exact p5
              · exact p4.iw i5 (fun a z => by unfold rPairs at z; omega)
            have i5 : iw (rXP X) h4 h5 := i5.wide (fun a z => x.rp (rPW_of (by omega) z))
            have x5 := XI_iw x4 i5 (fun a z => Or.inr (Or.inr z))
            have i6 : iw (rXP X) h h5 := i4.trans i5 (fun _ q => q) (fun _ q => q)
            exact xo_g (x5.ci.cm hk).pk (xo_eb (FX4_matches_v (x5.ci.cm hk) (x5.ci.cm hn) p6 p5) (xo_g (bI_01 _) (xo_v ⟨rfl, i6⟩)))
          · have y0 := y.t 0
            have e2 := FX9_noModule_v (E := E) y0 hl hn
            rw [yi_yi] at e2
            unfold FX9_areAlike
            refine xo_g y.l.1 (xo_eb (FX9_noModule_v y hl hk) (xo_jn (xo_t rfl (xo_g y0.l.1 (xo_eb e2 (xo_t rfl (xo_g y0.l.1 (xo_eb (y0.why hk) (xo_jn (xo_jn ?_))))))))))
            rw [hw.1]
            refine xo_t rfl (xo_g y0.l.1 (xo_eb (y0.why hn) ?_))
            rw [hw.2]
            refine xo_t rfl ?_
            try dsimp only
            refine xo_g y0.l.1 (xo_eb (FX9_refuse_0 y.l 3) (xo_t rfl (xo_g y0.l.1 (xo_b (FX9_alike_o (y0.1.1.ym hk) (y0.1.1.ym hn) L L') (fun v h2 q2 => ?_)))))
            obtain ⟨rfl, i2⟩ := q2
            exact xo_g (bI_01 _) (xo_v ⟨rfl, i2.wide (fun a z => by unfold rCl at z; unfold rEq; omega)⟩)
        · refine AG_x 2 3 0 ?_ (fun h' y => ?_) (by decide)
          · unfold FX8_areAlike
            by_cases h1 : whS (zS Z) (zT Z) m = 0
            · have h2 : ¬ whS (zS Z) (zT Z) n = 0 := fun z => hw ⟨h1, z⟩
              simp (disch := omega) only [↓xg, ↓reduceIte, ↓xjn_d, ↓xlt_d, eq_self, and_self, and_true, true_and, not_true, not_false_iff, ne_eq, true_or, or_true, or_false, false_or, nI_s, nI_leP, nI_eqP, x.k, ↓xb_eq (FX8_moduleAt_v x hl hk), ↓xb_eq (FX8_moduleAt_v x hl hn), C.k, D.k, x.re hk, x.re hn, h1, nI_0, nI_eq0, h2, ↓dT0b, ↓dT1b, ↓dF0b, ↓dF1b, i1_0]
            · simp (disch := omega) only [↓xg, ↓reduceIte, ↓xjn_d, ↓xlt_d, eq_self, and_self, and_true, true_and, not_true, not_false_iff, ne_eq, true_or, or_true, or_false, false_or, nI_s, nI_leP, nI_eqP, x.k, ↓xb_eq (FX8_moduleAt_v x hl hk), ↓xb_eq (FX8_moduleAt_v x hl hn), C.k, D.k, x.re hk, nI_eq0, h1, ↓dT0b, ↓dT1b, ↓dF0b, ↓dF1b, i1_0]
          · have y0 := y.t 0
            have e2 := FX9_noModule_v (E := E) y0 hl hn
            rw [yi_yi] at e2
            unfold FX9_areAlike
            by_cases h1 : whS (zS Z) (zT Z) m = 0
            · have h2 : ¬ whS (zS Z) (zT Z) n = 0 := fun z => hw ⟨h1, z⟩
              simp (disch := omega) only [↓xg, ↓reduceIte, ↓xjn_d, ↓xlt_d, eq_self, and_self, and_true, true_and, not_true, not_false_iff, ne_eq, true_or, or_true, or_false, false_or, nI_s, nI_leP, nI_eqP, y.l.1, ↓xb_eq (FX9_noModule_v y hl hk), y0.l.1, ↓xb_eq (e2), ↓xb_eq (y0.why hk), ↓xb_eq (y0.why hn), h1, nI_0, nI_eq0, h2, ↓xb_eq (FX9_refuse_1 y.l (c := 3) (by decide)), i1_0]
              try rfl
            · simp (disch := omega) only [↓xg, ↓reduceIte, ↓xjn_d, ↓xlt_d, eq_self, and_self, and_true, true_and, not_true, not_false_iff, ne_eq, true_or, or_true, or_false, false_or, nI_s, nI_leP, nI_eqP, y.l.1, ↓xb_eq (FX9_noModule_v y hl hk), y0.l.1, ↓xb_eq (e2), ↓xb_eq (y0.why hk), nI_eq0, h1, ↓xb_eq (FX9_refuse_1 y.l (c := 3) (by decide)), i1_0]
              try rfl
theorem ag_firstAlike (j : JJ h X Y O Z) (p : Int32) : AGx X Y (cmT [0, 1, 2]) h Z (FX8_firstAlike E X p) (FX9_firstAlike E Y p) := by
  obtain ⟨z, -, -, ⟨w, s, f, x⟩, y⟩ := j
  have bn := x.ci.1.1.1
  cases hl : zld Z
  · refine AG_x 0 1 0 ?_ (fun h' y => ?_) (by decide)
    · unfold FX8_firstAlike
      rw [xg_t x.k, FX8_lawfulModuleAt_0 x hl]
      first | rfl | (rw [xnn_e x.w5, xg_t x.k]; rfl)
    · unfold FX9_firstAlike
      simp (disch := omega) only [↓xg, ↓reduceIte, ↓xjn_d, ↓xlt_d, eq_self, and_self, and_true, true_and, not_true, not_false_iff, ne_eq, true_or, or_true, or_false, false_or, nI_s, nI_leP, nI_eqP, y.l.1, ↓xb_eq (FX9_notLawful_0 y hl p), i1_0, nI_0]
      try rfl
  · cases hp : inr p (snm (zS Z))
    · refine AG_x 1 2 0 ?_ (fun h' y => ?_) (by decide)
      · unfold FX8_firstAlike
        rw [xg_t x.k, FX8_lawfulModuleAt_1 x hl hp]
        first | rfl | (rw [xnn_e x.w5, xg_t x.k]; rfl)
      · unfold FX9_firstAlike
        simp (disch := omega) only [↓xg, ↓reduceIte, ↓xjn_d, ↓xlt_d, eq_self, and_self, and_true, true_and, not_true, not_false_iff, ne_eq, true_or, or_true, or_false, false_or, nI_s, nI_leP, nI_eqP, y.l.1, ↓xb_eq (FX9_notLawful_1 y hl hp), i1_0]
        try rfl
    · obtain ⟨m, hk, rfl⟩ := inr_of (by omega) hp
      by_cases hw : whS (zS Z) (zT Z) m = 0
      · have bm := y.bm hk
        have L := x.lw hk hw
        have c8 := ccN_8 L
        have C := x.ci.cm hk
        refine AG_o (nI (flS (zS Z) (zT Z) m)) ?_ (fun h' y => ?_)
        · unfold FX8_firstAlike
          refine xo_g x.k (xo_n x.w5 (xo_g x.k (xo_eb (FX8_lawfulModuleAt_v x hl hk hw) (xo_g x.wl.1 (xo_b (FX7_firstLike_o x.ci hk hw) (fun v h4 q4 => ?_))))))
          obtain ⟨rfl, i4⟩ := q4
          exact xo_v ⟨rfl, i4.wide (fun a z => x.rp z)⟩
        · have y0 := y.t 0
          unfold FX9_firstAlike
          refine xo_g y.l.1 (xo_eb (FX9_notLawful_v y hl hk hw) (xo_jn (xo_t rfl (xo_g y0.l.1 (xo_b (FX9_firstLike_o y0.1.1 hk hw) (fun v h2 q2 => ?_))))))
          obtain ⟨rfl, i2⟩ := q2
          exact xo_v ⟨rfl, i2.wide (fun a z => by unfold rCl at z; unfold rEq; omega)⟩
      · refine AG_x 2 3 0 ?_ (fun h' y => ?_) (by decide)
        · unfold FX8_firstAlike
          rw [xg_t x.k, FX8_lawfulModuleAt_2 x hl hk hw]
          first | rfl | (rw [xnn_e x.w5, xg_t x.k]; rfl)
        · unfold FX9_firstAlike
          simp (disch := omega) only [↓xg, ↓reduceIte, ↓xjn_d, ↓xlt_d, eq_self, and_self, and_true, true_and, not_true, not_false_iff, ne_eq, true_or, or_true, or_false, false_or, nI_s, nI_leP, nI_eqP, y.l.1, ↓xb_eq (FX9_notLawful_2 y hl hk hw), i1_0]
          try rfl
theorem ag_largeTimes (j : JJ h X Y O Z) (p q r : Int32) : AGx X Y (cmT [0, 1, 2]) h Z (FX8_largeTimes E X p q r) (FX9_largeTimes E Y p q r) := by
  obtain ⟨z, -, -, ⟨w, s, f, x⟩, y⟩ := j
  have bn := x.ci.1.1.1
  cases hl : zld Z
  · refine AG_x 0 1 0 ?_ (fun h' y => ?_) (by decide)
    · unfold FX8_largeTimes
      rw [xg_t x.k, FX8_lawfulModuleAt_0 x hl]
      first | rfl | (rw [xnn_e x.w5, xg_t x.k]; rfl)
    · unfold FX9_largeTimes
      simp (disch := omega) only [↓xg, ↓reduceIte, ↓xjn_d, ↓xlt_d, eq_self, and_self, and_true, true_and, not_true, not_false_iff, ne_eq, true_or, or_true, or_false, false_or, nI_s, nI_leP, nI_eqP, y.l.1, ↓xb_eq (FX9_noLarge_0 y hl p q), i1_0, nI_0]
      try rfl
  · cases hp : inr p (snm (zS Z))
    · refine AG_x 1 2 0 ?_ (fun h' y => ?_) (by decide)
      · unfold FX8_largeTimes
        rw [xg_t x.k, FX8_lawfulModuleAt_1 x hl hp]
        first | rfl | (rw [xnn_e x.w5, xg_t x.k]; rfl)
      · unfold FX9_largeTimes
        simp (disch := omega) only [↓xg, ↓reduceIte, ↓xjn_d, ↓xlt_d, eq_self, and_self, and_true, true_and, not_true, not_false_iff, ne_eq, true_or, or_true, or_false, false_or, nI_s, nI_leP, nI_eqP, y.l.1, ↓xb_eq (FX9_noLarge_1 y hl hp q), i1_0]
        try rfl
    · obtain ⟨m, hk, rfl⟩ := inr_of (by omega) hp
      by_cases hw : whS (zS Z) (zT Z) m = 0
      · have bm := y.bm hk
        have L := x.lw hk hw
        have c8 := ccN_8 L
        have C := x.ci.cm hk
        have l8 : dnl (mdS (zS Z) (zT Z) m) ≤ 8 := bm.2.2.2.2
        have u8 : dnu (mdS (zS Z) (zT Z) m) ≤ 8 := bm.2.2.2.1
        have n64 := lg_64 L.1
        have hlt : ∀ {a : Nat}, a < dnu (mdS (zS Z) (zT Z) m) * dnl (mdS (zS Z) (zT Z) m) → FX1_hasLarge E (w + 32 + 8 * m) (nI a) h = xv 1 h := fun ha => by rw [FX1_hasLarge_v C, inr_nI (by omega) ha]; rfl
        have hlf : ∀ {p : Int32}, inr p (dnu (mdS (zS Z) (zT Z) m) * dnl (mdS (zS Z) (zT Z) m)) = false → FX1_hasLarge E (w + 32 + 8 * m) p h = xv 0 h := fun hp => by rw [FX1_hasLarge_v C, hp]; rfl
        cases hq : inr q (dnu (mdS (zS Z) (zT Z) m) * dnl (mdS (zS Z) (zT Z) m))
        · refine AG_x 2 3 0 ?_ (fun h' y => ?_) (by decide)
          · unfold FX8_largeTimes
            simp (disch := omega) only [↓xg, ↓reduceIte, ↓xjn_d, ↓xlt_d, eq_self, and_self, and_true, true_and, not_true, not_false_iff, ne_eq, true_or, or_true, or_false, false_or, nI_s, nI_leP, nI_eqP, x.k, ↓xb_eq (FX8_lawfulModuleAt_v x hl hk hw), C.k, ↓xb_eq (hlf hq), ↓dT0b, ↓dT1b, ↓dF0b, ↓dF1b, i1_0]
          · unfold FX9_largeTimes
            simp (disch := omega) only [↓xg, ↓reduceIte, ↓xjn_d, ↓xlt_d, eq_self, and_self, and_true, true_and, not_true, not_false_iff, ne_eq, true_or, or_true, or_false, false_or, nI_s, nI_leP, nI_eqP, y.l.1, ↓xb_eq (FX9_noLarge_3 y hl hk hw hq), i1_0]
            try rfl
        · obtain ⟨a, ha, rfl⟩ := inr_of (by omega) hq
          cases hr : inr r (dnu (mdS (zS Z) (zT Z) m) * dnl (mdS (zS Z) (zT Z) m))
          · refine AG_x 2 3 0 ?_ (fun h' y => ?_) (by decide)
            · unfold FX8_largeTimes
              simp (disch := omega) only [↓xg, ↓reduceIte, ↓xjn_d, ↓xlt_d, eq_self, and_self, and_true, true_and, not_true, not_false_iff, ne_eq, true_or, or_true, or_false, false_or, nI_s, nI_leP, nI_eqP, x.k, ↓xb_eq (FX8_lawfulModuleAt_v x hl hk hw), C.k, ↓xb_eq (hlt ha), ↓xb_eq (hlf hr), ↓dT0b, ↓dT1b, ↓dF0b, ↓dF1b, i1_0]
            · have y0 := y.t 0
              have e2 := FX9_noLarge_3 (E := E) y0 hl hk hw hr
              rw [yi_yi] at e2
              unfold FX9_largeTimes
              simp (disch := omega) only [↓xg, ↓reduceIte, ↓xjn_d, ↓xlt_d, eq_self, and_self, and_true, true_and, not_true, not_false_iff, ne_eq, true_or, or_true, or_false, false_or, nI_s, nI_leP, nI_eqP, y.l.1, ↓xb_eq (FX9_noLarge_v y hl hk hw ha), y0.l.1, ↓xb_eq (e2), i1_0]
              try rfl
          · obtain ⟨b, hb, rfl⟩ := inr_of (by omega) hr
            refine AG_v (nI (lpS (mdS (zS Z) (zT Z) m) a b)) ?_ (fun h' y => ?_)
            · unfold FX8_largeTimes
              simp (disch := omega) only [↓xg, ↓reduceIte, ↓xjn_d, ↓xlt_d, eq_self, and_self, and_true, true_and, not_true, not_false_iff, ne_eq, true_or, or_true, or_false, false_or, nI_s, nI_leP, nI_eqP, x.k, ↓xb_eq (FX8_lawfulModuleAt_v x hl hk hw), C.k, ↓xb_eq (hlt ha), ↓xb_eq (hlt hb), ↓dT0b, ↓dT1b, ↓dF0b, ↓dF1b, i1_0, ↓xb_eq (FX1_largeProduct_v C ha hb)]
            · have y0 := y.t 0
              have e2 := FX9_noLarge_v (E := E) y0 hl hk hw hb
              rw [yi_yi] at e2
              unfold FX9_largeTimes
              simp (disch := omega) only [↓xg, ↓reduceIte, ↓xjn_d, ↓xlt_d, eq_self, and_self, and_true, true_and, not_true, not_false_iff, ne_eq, true_or, or_true, or_false, false_or, nI_s, nI_leP, nI_eqP, y.l.1, ↓xb_eq (FX9_noLarge_v y hl hk hw ha), y0.l.1, ↓xb_eq (e2), ↓xb_eq (FX9_large_v (y0.1.1.ym hk) L.2.1 ha hb)]
      · refine AG_x 2 3 0 ?_ (fun h' y => ?_) (by decide)
        · unfold FX8_largeTimes
          rw [xg_t x.k, FX8_lawfulModuleAt_2 x hl hk hw]
          first | rfl | (rw [xnn_e x.w5, xg_t x.k]; rfl)
        · unfold FX9_largeTimes
          simp (disch := omega) only [↓xg, ↓reduceIte, ↓xjn_d, ↓xlt_d, eq_self, and_self, and_true, true_and, not_true, not_false_iff, ne_eq, true_or, or_true, or_false, false_or, nI_s, nI_leP, nI_eqP, y.l.1, ↓xb_eq (FX9_noLarge_2 y hl hk hw q), i1_0]
          try rfl
theorem ag_target (j : JJ h X Y O Z) (p q : Int32) : AGx X Y (cmT [0, 1, 2]) h Z (FX8_target E X p q) (FX9_target E Y p q) := by
  obtain ⟨z, -, -, ⟨w, s, f, x⟩, y⟩ := j
  have bn := x.ci.1.1.1
  cases hl : zld Z
  · refine AG_x 0 1 0 ?_ (fun h' y => ?_) (by decide)
    · unfold FX8_target
      rw [xg_t x.k, FX8_lawfulModuleAt_0 x hl]
      first | rfl | (rw [xnn_e x.w5, xg_t x.k]; rfl)
    · unfold FX9_target
      simp (disch := omega) only [↓xg, ↓reduceIte, ↓xjn_d, ↓xlt_d, eq_self, and_self, and_true, true_and, not_true, not_false_iff, ne_eq, true_or, or_true, or_false, false_or, nI_s, nI_leP, nI_eqP, y.l.1, ↓xb_eq (FX9_noLarge_0 y hl p q), i1_0, nI_0]
      try rfl
  · cases hp : inr p (snm (zS Z))
    · refine AG_x 1 2 0 ?_ (fun h' y => ?_) (by decide)
      · unfold FX8_target
        rw [xg_t x.k, FX8_lawfulModuleAt_1 x hl hp]
        first | rfl | (rw [xnn_e x.w5, xg_t x.k]; rfl)
      · unfold FX9_target
        simp (disch := omega) only [↓xg, ↓reduceIte, ↓xjn_d, ↓xlt_d, eq_self, and_self, and_true, true_and, not_true, not_false_iff, ne_eq, true_or, or_true, or_false, false_or, nI_s, nI_leP, nI_eqP, y.l.1, ↓xb_eq (FX9_noLarge_1 y hl hp q), i1_0]
        try rfl
    · obtain ⟨m, hk, rfl⟩ := inr_of (by omega) hp
      by_cases hw : whS (zS Z) (zT Z) m = 0
      · have bm := y.bm hk
        have L := x.lw hk hw
        have c8 := ccN_8 L
        have C := x.ci.cm hk
        have l8 : dnl (mdS (zS Z) (zT Z) m) ≤ 8 := bm.2.2.2.2
        have u8 : dnu (mdS (zS Z) (zT Z) m) ≤ 8 := bm.2.2.2.1
        have n64 := lg_64 L.1
        have hlt : ∀ {a : Nat}, a < dnu (mdS (zS Z) (zT Z) m) * dnl (mdS (zS Z) (zT Z) m) → FX1_hasLarge E (w + 32 + 8 * m) (nI a) h = xv 1 h := fun ha => by rw [FX1_hasLarge_v C, inr_nI (by omega) ha]; rfl
        have hlf : ∀ {p : Int32}, inr p (dnu (mdS (zS Z) (zT Z) m) * dnl (mdS (zS Z) (zT Z) m)) = false → FX1_hasLarge E (w + 32 + 8 * m) p h = xv 0 h := fun hp => by rw [FX1_hasLarge_v C, hp]; rfl
        cases hq : inr q (dnu (mdS (zS Z) (zT Z) m) * dnl (mdS (zS Z) (zT Z) m))
        · refine AG_x 2 3 0 ?_ (fun h' y => ?_) (by decide)
          · unfold FX8_target
            simp (disch := omega) only [↓xg, ↓reduceIte, ↓xjn_d, ↓xlt_d, eq_self, and_self, and_true, true_and, not_true, not_false_iff, ne_eq, true_or, or_true, or_false, false_or, nI_s, nI_leP, nI_eqP, x.k, ↓xb_eq (FX8_lawfulModuleAt_v x hl hk hw), C.k, ↓xb_eq (hlf hq), ↓dT0b, ↓dT1b, ↓dF0b, ↓dF1b, i1_0]
          · unfold FX9_target
            simp (disch := omega) only [↓xg, ↓reduceIte, ↓xjn_d, ↓xlt_d, eq_self, and_self, and_true, true_and, not_true, not_false_iff, ne_eq, true_or, or_true, or_false, false_or, nI_s, nI_leP, nI_eqP, y.l.1, ↓xb_eq (FX9_noLarge_3 y hl hk hw hq), i1_0]
            try rfl
        · obtain ⟨a, ha, rfl⟩ := inr_of (by omega) hq
          refine AG_v (nI (tgS (mdS (zS Z) (zT Z) m) (a / dnl (mdS (zS Z) (zT Z) m)) (a % dnl (mdS (zS Z) (zT Z) m)))) ?_ (fun h' y => ?_)
          · unfold FX8_target
            simp (disch := omega) only [↓xg, ↓reduceIte, ↓xjn_d, ↓xlt_d, eq_self, and_self, and_true, true_and, not_true, not_false_iff, ne_eq, true_or, or_true, or_false, false_or, nI_s, nI_leP, nI_eqP, x.k, ↓xb_eq (FX8_lawfulModuleAt_v x hl hk hw), C.k, ↓xb_eq (hlt ha), ↓dT0b, ↓dT1b, ↓dF0b, ↓dF1b, i1_0, ↓xb_eq (FX1_upperPart_v C ha), ↓xb_eq (FX1_lowerPart_v C ha), ↓xb_eq (FX1_targetOf_v C (lg_hi L.1 ha) (lg_lo L.1 a))]
          · have y0 := y.t 0
            unfold FX9_target
            simp (disch := omega) only [↓xg, ↓reduceIte, ↓xjn_d, ↓xlt_d, eq_self, and_self, and_true, true_and, not_true, not_false_iff, ne_eq, true_or, or_true, or_false, false_or, nI_s, nI_leP, nI_eqP, y.l.1, ↓xb_eq (FX9_noLarge_v y hl hk hw ha), y0.l.1, ↓xb_eq (FX9_targetOf_v (y0.1.1.ym hk) L.2.1 ha)]
      · refine AG_x 2 3 0 ?_ (fun h' y => ?_) (by decide)
        · unfold FX8_target
          rw [xg_t x.k, FX8_lawfulModuleAt_2 x hl hk hw]
          first | rfl | (rw [xnn_e x.w5, xg_t x.k]; rfl)
        · unfold FX9_target
          simp (disch := omega) only [↓xg, ↓reduceIte, ↓xjn_d, ↓xlt_d, eq_self, and_self, and_true, true_and, not_true, not_false_iff, ne_eq, true_or, or_true, or_false, false_or, nI_s, nI_leP, nI_eqP, y.l.1, ↓xb_eq (FX9_noLarge_2 y hl hk hw q), i1_0]
          try rfl
theorem ag_largeOrder (j : JJ h X Y O Z) (p q : Int32) : AGx X Y (cmT [0, 1, 2]) h Z (FX8_largeOrder E X p q) (FX9_largeOrder E Y p q) := by
  obtain ⟨z, -, -, ⟨w, s, f, x⟩, y⟩ := j
  have bn := x.ci.1.1.1
  cases hl : zld Z
  · refine AG_x 0 1 0 ?_ (fun h' y => ?_) (by decide)
    · unfold FX8_largeOrder
      rw [xg_t x.k, FX8_lawfulModuleAt_0 x hl]
      first | rfl | (rw [xnn_e x.w5, xg_t x.k]; rfl)
    · unfold FX9_largeOrder
      simp (disch := omega) only [↓xg, ↓reduceIte, ↓xjn_d, ↓xlt_d, eq_self, and_self, and_true, true_and, not_true, not_false_iff, ne_eq, true_or, or_true, or_false, false_or, nI_s, nI_leP, nI_eqP, y.l.1, ↓xb_eq (FX9_noLarge_0 y hl p q), i1_0, nI_0]
      try rfl
  · cases hp : inr p (snm (zS Z))
    · refine AG_x 1 2 0 ?_ (fun h' y => ?_) (by decide)
      · unfold FX8_largeOrder
        rw [xg_t x.k, FX8_lawfulModuleAt_1 x hl hp]
        first | rfl | (rw [xnn_e x.w5, xg_t x.k]; rfl)
      · unfold FX9_largeOrder
        simp (disch := omega) only [↓xg, ↓reduceIte, ↓xjn_d, ↓xlt_d, eq_self, and_self, and_true, true_and, not_true, not_false_iff, ne_eq, true_or, or_true, or_false, false_or, nI_s, nI_leP, nI_eqP, y.l.1, ↓xb_eq (FX9_noLarge_1 y hl hp q), i1_0]
        try rfl
    · obtain ⟨m, hk, rfl⟩ := inr_of (by omega) hp
      by_cases hw : whS (zS Z) (zT Z) m = 0
      · have bm := y.bm hk
        have L := x.lw hk hw
        have c8 := ccN_8 L
        have C := x.ci.cm hk
        have l8 : dnl (mdS (zS Z) (zT Z) m) ≤ 8 := bm.2.2.2.2
        have u8 : dnu (mdS (zS Z) (zT Z) m) ≤ 8 := bm.2.2.2.1
        have n64 := lg_64 L.1
        have hlt : ∀ {a : Nat}, a < dnu (mdS (zS Z) (zT Z) m) * dnl (mdS (zS Z) (zT Z) m) → FX1_hasLarge E (w + 32 + 8 * m) (nI a) h = xv 1 h := fun ha => by rw [FX1_hasLarge_v C, inr_nI (by omega) ha]; rfl
        have hlf : ∀ {p : Int32}, inr p (dnu (mdS (zS Z) (zT Z) m) * dnl (mdS (zS Z) (zT Z) m)) = false → FX1_hasLarge E (w + 32 + 8 * m) p h = xv 0 h := fun hp => by rw [FX1_hasLarge_v C, hp]; rfl
        cases hq : inr q (dnu (mdS (zS Z) (zT Z) m) * dnl (mdS (zS Z) (zT Z) m))
        · refine AG_x 2 3 0 ?_ (fun h' y => ?_) (by decide)
          · unfold FX8_largeOrder
            simp (disch := omega) only [↓xg, ↓reduceIte, ↓xjn_d, ↓xlt_d, eq_self, and_self, and_true, true_and, not_true, not_false_iff, ne_eq, true_or, or_true, or_false, false_or, nI_s, nI_leP, nI_eqP, x.k, ↓xb_eq (FX8_lawfulModuleAt_v x hl hk hw), C.k, ↓xb_eq (hlf hq), ↓dT0b, ↓dT1b, ↓dF0b, ↓dF1b, i1_0]
          · unfold FX9_largeOrder
            simp (disch := omega) only [↓xg, ↓reduceIte, ↓xjn_d, ↓xlt_d, eq_self, and_self, and_true, true_and, not_true, not_false_iff, ne_eq, true_or, or_true, or_false, false_or, nI_s, nI_leP, nI_eqP, y.l.1, ↓xb_eq (FX9_noLarge_3 y hl hk hw hq), i1_0]
            try rfl
        · obtain ⟨a, ha, rfl⟩ := inr_of (by omega) hq
          refine AG_v (nI (olS (mdS (zS Z) (zT Z) m) a)) ?_ (fun h' y => ?_)
          · unfold FX8_largeOrder
            simp (disch := omega) only [↓xg, ↓reduceIte, ↓xjn_d, ↓xlt_d, eq_self, and_self, and_true, true_and, not_true, not_false_iff, ne_eq, true_or, or_true, or_false, false_or, nI_s, nI_leP, nI_eqP, x.k, ↓xb_eq (FX8_lawfulModuleAt_v x hl hk hw), C.k, ↓xb_eq (hlt ha), ↓dT0b, ↓dT1b, ↓dF0b, ↓dF1b, i1_0, ↓xb_eq (FX1_largePeriod_v C ha)]
          · have y0 := y.t 0
            have M := y0.1.1.ym hk
            have hp : ∀ i, pw (lpS (mdS (zS Z) (zT Z) m)) a i < dnu (mdS (zS Z) (zT Z) m) * dnl (mdS (zS Z) (zT Z) m) := pw_lt (fun a b ha hb => lp_lt L.1 ha hb) ha
            obtain ⟨z1, z2⟩ := ol_first L.1 L.2.1 ha (L.lp0 ha)
            have hm := fi_le 63 (fun i => pw (lpS (mdS (zS Z) (zT Z) m)) a i == 0)
            unfold FX9_largeOrder olS
            (try dsimp only); (rw [xg_t (y.l.1), xb_eq (FX9_noLarge_v y hl hk hw ha), if_pos rfl])
            generalize yi h' Y 0 0 = h2 at *
            refine xlp_all (fun i => (nI (i + 1), nI (pw (lpS (mdS (zS Z) (zT Z) m)) a i))) (fun _ => h2) (fi 63 (fun i => pw (lpS (mdS (zS Z) (zT Z) m)) a i == 0)) (by omega) (fun i hi ag => ?_) (fun ag => ?_)
            · have h2' := z2 i hi
              have h4 := hp i
              simp (disch := omega) only [↓xg, ↓reduceIte, ↓xjn_d, ↓xlt_d, eq_self, and_self, and_true, true_and, not_true, not_false_iff, ne_eq, true_or, or_true, or_false, false_or, nI_s, nI_leP, nI_eqP, nI_eq0, h2', y0.l.1, ↓xb_eq (FX9_large_v M L.2.1 (hp i) ha)]
              rfl
            · simp (disch := omega) only [↓xg, ↓reduceIte, ↓xjn_d, ↓xlt_d, eq_self, and_self, and_true, true_and, not_true, not_false_iff, ne_eq, true_or, or_true, or_false, false_or, nI_s, nI_leP, nI_eqP, z1, nI_0]
      · refine AG_x 2 3 0 ?_ (fun h' y => ?_) (by decide)
        · unfold FX8_largeOrder
          rw [xg_t x.k, FX8_lawfulModuleAt_2 x hl hk hw]
          first | rfl | (rw [xnn_e x.w5, xg_t x.k]; rfl)
        · unfold FX9_largeOrder
          simp (disch := omega) only [↓xg, ↓reduceIte, ↓xjn_d, ↓xlt_d, eq_self, and_self, and_true, true_and, not_true, not_false_iff, ne_eq, true_or, or_true, or_false, false_or, nI_s, nI_leP, nI_eqP, y.l.1, ↓xb_eq (FX9_noLarge_2 y hl hk hw q), i1_0]
          try rfl
theorem ag_kinds (j : JJ h X Y O Z) : AGx X Y (cmT [0]) h Z (FX8_kinds E X) (FX9_kinds E Y) := by
  obtain ⟨z, -, -, ⟨w, s, f, x⟩, y⟩ := j
  have bn := x.ci.1.1.1
  cases hl : zld Z
  · refine AG_x 0 1 0 ?_ (fun h' y => ?_) (by decide)
    · unfold FX8_kinds
      rw [xg_t x.k, FX8_demandText_0 x hl]
      rfl
    · unfold FX9_kinds
      simp (disch := omega) only [↓xg, ↓reduceIte, ↓xjn_d, ↓xlt_d, eq_self, and_self, and_true, true_and, not_true, not_false_iff, ne_eq, true_or, or_true, or_false, false_or, nI_s, nI_leP, nI_eqP, y.l.1, ↓xb_eq (FX9_notLoaded_0 y hl), i1_0]
      try rfl
  · refine AG_o (sumI (fun k => if whS (zS Z) (zT Z) k = 0 ∧ flS (zS Z) (zT Z) k = k then 1 else 0) (snm (zS Z))) ?_ (fun h' y => ?_)
    · unfold FX8_kinds
      refine xo_g x.k (xo_eb (FX8_demandText_v x hl) ?_)
      refine xlp_inv (Po := fun m => xo m _) (fun i s h' => s = (sumI (fun k => if whS (zS Z) (zT Z) k = 0 ∧ flS (zS Z) (zT Z) k = k then 1 else 0) i, nI i) ∧ iw (rXP X) h h') (snm (zS Z)) (by omega) (fun i s h1 ag hi I again => ?_) ⟨rfl, iw.refl _ _⟩
      obtain ⟨rfl, i1⟩ := I
      have x1 := XI_iw x i1 (fun a z => Or.inr (Or.inr z))
      refine xo_jn ?_
      by_cases e6 : i = 6
      · subst e6
        refine xo_t (show (6 : Int32) ≤ nI 6 by decide) (xo_v ⟨?_, i1⟩)
        rw [show snm (zS Z) = 6 by omega]
      · refine xo_f (by rw [li6, nI_leP (by omega) (by omega)]; omega) (xo_g x1.k (xo_n x1.w5 (xo_g x1.wl.1 (xo_n x1.wl.rm (xo_g x1.wl.km (xo_eb (x1.hm (nI i)) ?_))))))
        by_cases e : i = snm (zS Z)
        · have e0 : inr (nI i) (snm (zS Z)) = false := by
            unfold inr
            rw [decide_eq_false_iff_not]
            rintro ⟨-, z⟩
            rw [nI_ltP (by omega) (by omega)] at z
            omega
          rw [e0]
          refine xo_t rfl (xo_v ⟨?_, i1⟩)
          rw [e]
        · have hlt : i < snm (zS Z) := by omega
          have hw5 := whS_le (zS Z) (zT Z) i
          have C := x1.ci.cm hlt
          rw [inr_nI (by omega) hlt]
          refine xo_f (by decide) (xo_g x1.k (xo_n x1.w5 (xo_g x1.wl.1 (xo_n x1.wl.r11 (xo_g ⟨x1.wl.k11, by rw [x1.wl.n11]; exact xin_nI (by omega) (by omega)⟩ (xo_n (x1.wl.m (by omega)) (xo_g C.k (xo_jn (xo_jn ?_)))))))))
          rw [x1.re hlt]
          by_cases hw : whS (zS Z) (zT Z) i = 0
          · rw [hw]
            refine xo_t rfl (xo_g x1.k (xo_n x1.w5 (xo_g x1.wl.1 (xo_b (FX7_firstLike_o x1.ci hlt hw) (fun v h3 q3 => ?_)))))
            obtain ⟨rfl, i3⟩ := q3
            have i3 : iw (rXP X) h h3 := i1.trans i3 (fun _ q => q) (fun a z => x.rp z)
            have hf : flS (zS Z) (zT Z) i ≤ i := fi_le i _
            by_cases c : flS (zS Z) (zT Z) i = i
            · refine xo_t (by rw [c]) (xo_lt ?_)
              try dsimp only
              rw [nI_s]
              refine again hlt _ _ ⟨?_, i3⟩
              rw [sumI_s, if_pos (show whS (zS Z) (zT Z) i = 0 ∧ flS (zS Z) (zT Z) i = i from ⟨hw, c⟩)]
            · refine xo_f (by rw [nI_eqP (by omega) (by omega)]; exact c) (xo_lt ?_)
              try dsimp only
              rw [nI_s]
              refine again hlt _ _ ⟨?_, i3⟩
              rw [sumI_s, if_neg (show ¬ (whS (zS Z) (zT Z) i = 0 ∧ flS (zS Z) (zT Z) i = i) from fun z => c z.2)]
          · refine xo_f (by rw [nI_eq0 (by omega)]; exact hw) (xo_lt ?_)
            try dsimp only
            rw [nI_s]
            refine again hlt _ _ ⟨?_, i1⟩
            rw [sumI_s, if_neg (show ¬ (whS (zS Z) (zT Z) i = 0 ∧ flS (zS Z) (zT Z) i = i) from fun z => hw z.1)]
    · have y0 := y.t 0
      unfold FX9_kinds
      refine xo_g y.l.1 (xo_eb (FX9_notLoaded_v y hl) (xo_t rfl ?_))
      refine xlp_inv (Po := fun m => xo m _) (fun i s h2 => s = (sumI (fun k => if whS (zS Z) (zT Z) k = 0 ∧ flS (zS Z) (zT Z) k = k then 1 else 0) i, nI i) ∧ iw (rEq Y) (yi h' Y 0 0) h2) (snm (zS Z)) (by omega) (fun i s h1 ag hi I again => ?_) ⟨rfl, iw.refl _ _⟩
      obtain ⟨rfl, i1⟩ := I
      have y1 := YI_iw y0 i1 (fun a z => by unfold rEq at z; omega)
      refine xo_g y1.l.1 ?_
      rw [y1.cm]
      by_cases e : i = snm (zS Z)
      · subst e
        exact xo_t (Int32.le_refl _) (xo_v ⟨rfl, i1⟩)
      · have hlt : i < snm (zS Z) := by omega
        have hw5 := whS_le (zS Z) (zT Z) i
        refine xo_f (nI_ge hlt (by omega)) (xo_g y1.l.1 (xo_eb (y1.why hlt) (xo_jn (xo_jn ?_))))
        by_cases hw : whS (zS Z) (zT Z) i = 0
        · rw [hw]
          refine xo_t rfl (xo_g y1.l.1 (xo_b (FX9_firstLike_o y1.1.1 hlt hw) (fun v h3 q3 => ?_)))
          obtain ⟨rfl, i3⟩ := q3
          have i3 : iw (rEq Y) (yi h' Y 0 0) h3 := i1.trans i3 (fun _ q => q) (fun a z => by unfold rCl at z; unfold rEq; omega)
          have hf : flS (zS Z) (zT Z) i ≤ i := fi_le i _
          by_cases c : flS (zS Z) (zT Z) i = i
          · refine xo_t (by rw [c]) (xo_eb (FX9_flag_v true) (xo_lt ?_))
            try dsimp only
            rw [nI_s]
            refine again hlt _ _ ⟨?_, i3⟩
            rw [sumI_s, if_pos (show whS (zS Z) (zT Z) i = 0 ∧ flS (zS Z) (zT Z) i = i from ⟨hw, c⟩)]
            rfl
          · refine xo_f (by rw [nI_eqP (by omega) (by omega)]; exact c) (xo_eb (FX9_flag_v false) (xo_lt ?_))
            try dsimp only
            rw [nI_s]
            refine again hlt _ _ ⟨?_, i3⟩
            rw [sumI_s, if_neg (show ¬ (whS (zS Z) (zT Z) i = 0 ∧ flS (zS Z) (zT Z) i = i) from fun z => c z.2)]
            rfl
        · refine xo_f (by rw [nI_eq0 (by omega)]; exact hw) (xo_eb (FX9_flag_v false) (xo_lt ?_))
          try dsimp only
          rw [nI_s]
          refine again hlt _ _ ⟨?_, i1⟩
          rw [sumI_s, if_neg (show ¬ (whS (zS Z) (zT Z) i = 0 ∧ flS (zS Z) (zT Z) i = i) from fun z => hw z.1)]
          rfl
theorem ag_between (j : JJ h X Y O Z) (p q r : Int32) : AGx X Y (cmT [0, 1, 2]) h Z (FX8_between E X p q r) (FX9_between E Y p q r) := by
  obtain ⟨z, -, -, ⟨w, s, f, x⟩, y⟩ := j
  have bn := x.ci.1.1.1
  cases hl : zld Z
  · refine AG_x 0 1 0 ?_ (fun h' y => ?_) (by decide)
    · unfold FX8_between
      rw [xg_t x.k, FX8_moduleAt_0 x hl]
      first | rfl | (rw [xnn_e x.w5, xg_t x.k]; rfl)
    · unfold FX9_between
      simp (disch := omega) only [↓xg, ↓reduceIte, ↓xjn_d, ↓xlt_d, eq_self, and_self, and_true, true_and, not_true, not_false_iff, ne_eq, true_or, or_true, or_false, false_or, nI_s, nI_leP, nI_eqP, y.l.1, ↓xb_eq (FX9_noLower_0 y hl p q), i1_0, nI_0]
      try rfl
  · cases hp : inr p (snm (zS Z))
    · refine AG_x 1 2 0 ?_ (fun h' y => ?_) (by decide)
      · unfold FX8_between
        rw [xg_t x.k, FX8_moduleAt_1 x hl hp]
        first | rfl | (rw [xnn_e x.w5, xg_t x.k]; rfl)
      · unfold FX9_between
        simp (disch := omega) only [↓xg, ↓reduceIte, ↓xjn_d, ↓xlt_d, eq_self, and_self, and_true, true_and, not_true, not_false_iff, ne_eq, true_or, or_true, or_false, false_or, nI_s, nI_leP, nI_eqP, y.l.1, ↓xb_eq (FX9_noLower_1 y hl hp q), i1_0]
        try rfl
    · obtain ⟨m, hk, rfl⟩ := inr_of (by omega) hp
      have bm := y.bm hk
      have C := x.ci.cm hk
      have hw5 := whS_le (zS Z) (zT Z) m
      have l8 : dnl (mdS (zS Z) (zT Z) m) ≤ 8 := bm.2.2.2.2
      have u8 : dnu (mdS (zS Z) (zT Z) m) ≤ 8 := bm.2.2.2.1
      cases hq : inr q (nlS2 (zS Z) m)
      · refine AG_x 1 2 0 ?_ (fun h' y => ?_) (by decide)
        · unfold FX8_between
          simp (disch := omega) only [↓xg, ↓reduceIte, ↓xjn_d, ↓xlt_d, eq_self, and_self, and_true, true_and, not_true, not_false_iff, ne_eq, true_or, or_true, or_false, false_or, nI_s, nI_leP, nI_eqP, x.k, ↓xb_eq (FX8_moduleAt_v x hl hk), C.k, ↓xnn_e (C.l), C.lk, ↓xb_eq (has_f C.2.2.2.1.1 C.2.2.2.1.2.1 hq), ↓dT0b, ↓dT1b, ↓dF0b, ↓dF1b, i1_0]
        · unfold FX9_between
          simp (disch := omega) only [↓xg, ↓reduceIte, ↓xjn_d, ↓xlt_d, eq_self, and_self, and_true, true_and, not_true, not_false_iff, ne_eq, true_or, or_true, or_false, false_or, nI_s, nI_leP, nI_eqP, y.l.1, ↓xb_eq (FX9_noLower_2 y hl hk hq), i1_0]
          try rfl
      · obtain ⟨g, hg, rfl⟩ := inr_of (by omega) hq
        cases hr : inr r (nlS2 (zS Z) m)
        · refine AG_x 1 2 0 ?_ (fun h' y => ?_) (by decide)
          · unfold FX8_between
            simp (disch := omega) only [↓xg, ↓reduceIte, ↓xjn_d, ↓xlt_d, eq_self, and_self, and_true, true_and, not_true, not_false_iff, ne_eq, true_or, or_true, or_false, false_or, nI_s, nI_leP, nI_eqP, x.k, ↓xb_eq (FX8_moduleAt_v x hl hk), C.k, ↓xnn_e (C.l), C.lk, ↓xb_eq (has_t C.2.2.2.1.1 C.2.2.2.1.2.1 hg), ↓xb_eq (has_f C.2.2.2.1.1 C.2.2.2.1.2.1 hr), ↓dT0b, ↓dT1b, ↓dF0b, ↓dF1b, i1_0]
          · have y0 := y.t 0
            have e2 := FX9_noLower_2 (E := E) y0 hl hk hr
            rw [yi_yi] at e2
            unfold FX9_between
            simp (disch := omega) only [↓xg, ↓reduceIte, ↓xjn_d, ↓xlt_d, eq_self, and_self, and_true, true_and, not_true, not_false_iff, ne_eq, true_or, or_true, or_false, false_or, nI_s, nI_leP, nI_eqP, y.l.1, ↓xb_eq (FX9_noLower_v y hl hk hg), y0.l.1, ↓xb_eq (e2), i1_0]
            try rfl
        · obtain ⟨f', hf, rfl⟩ := inr_of (by omega) hr
          by_cases hw : whS (zS Z) (zT Z) m = 0
          · have L := x.lw hk hw
            refine AG_v (btS (mdS (zS Z) (zT Z) m) g f') ?_ (fun h' y => ?_)
            · unfold FX8_between
              simp (disch := omega) only [↓xg, ↓reduceIte, ↓xjn_d, ↓xlt_d, eq_self, and_self, and_true, true_and, not_true, not_false_iff, ne_eq, true_or, or_true, or_false, false_or, nI_s, nI_leP, nI_eqP, x.k, ↓xb_eq (FX8_moduleAt_v x hl hk), C.k, ↓xnn_e (C.l), C.lk, ↓xb_eq (has_t C.2.2.2.1.1 C.2.2.2.1.2.1 hg), ↓xb_eq (has_t C.2.2.2.1.1 C.2.2.2.1.2.1 hf), ↓dT0b, ↓dT1b, ↓dF0b, ↓dF1b, i1_0, x.re hk, hw, nI_0, ↓xb_eq (FX1_countBetween_v C hg hf)]
            · have y0 := y.t 0
              have M := y0.1.1.ym hk
              have e2 := FX9_noLower_v (E := E) y0 hl hk hf
              rw [yi_yi] at e2
              unfold FX9_between
              (try dsimp only); (rw [xg_t (y.l.1), xb_eq (FX9_noLower_v y hl hk hg), xjn_d, if_pos rfl, xg_t (y0.l.1), xb_eq (e2), if_pos rfl, xg_t (y0.l.1), xb_eq (y0.why hk), xjn_d, hw, if_pos (show nI 0 = (0 : Int32) from rfl)])
              (try dsimp only); (rw [xg_t (y0.l.1), xb_eq (FX9_refuse_0 y.l 3), if_pos rfl])
              generalize yi h' Y 0 0 = h2 at *
              refine xlp_all (fun i => (sumI (fun a => if tgS (mdS (zS Z) (zT Z) m) a g = f' then 1 else 0) i, nI i)) (fun _ => h2) (dnu (mdS (zS Z) (zT Z) m)) (by omega) (fun a ha ag => ?_) (fun ag => ?_)
              · have hgl : g < dnl (mdS (zS Z) (zT Z) m) := hg
                have hfl : f' < dnl (mdS (zS Z) (zT Z) m) := hf
                have q := L.w.2.2.2.1 _ _ (L.w.2.2.2.2.2.1 a ha) hgl
                have q1 : tgS (mdS (zS Z) (zT Z) m) a g < dnl (mdS (zS Z) (zT Z) m) := q
                have e3 := FX9_targetOf_v (E := E) M L.2.1 (lg_lt ha hgl)
                rw [show (a * dnl (mdS (zS Z) (zT Z) m) + g) / dnl (mdS (zS Z) (zT Z) m) = a from md_d hgl, show (a * dnl (mdS (zS Z) (zT Z) m) + g) % dnl (mdS (zS Z) (zT Z) m) = g from md_m hgl] at e3
                (try dsimp only); (rw [xg_t (y0.l.1), xb_eq (FX9_uppers_v M), if_neg (nI_ge ha (by omega)), xg_t (y0.l.1), xb_eq (FX9_lowers_v M), xg_t (y0.l.1), nI_m, nI_a, xb_eq (e3), xjn_d])
                rw [sumI_s, nI_s]
                by_cases c : tgS (mdS (zS Z) (zT Z) m) a g = f'
                · rw [if_pos (show nI (tgS (mdS (zS Z) (zT Z) m) a g) = nI f' by rw [c]), if_pos c]
                  rfl
                · rw [if_neg (show ¬ nI (tgS (mdS (zS Z) (zT Z) m) a g) = nI f' by rw [nI_eqP (by omega) (by omega)]; exact c), if_neg c]
                  rfl
              · (try dsimp only); (rw [xg_t (y0.l.1), xb_eq (FX9_uppers_v M), if_pos (Int32.le_refl _)])
                rfl
          · refine AG_x 2 3 0 ?_ (fun h' y => ?_) (by decide)
            · unfold FX8_between
              simp (disch := omega) only [↓xg, ↓reduceIte, ↓xjn_d, ↓xlt_d, eq_self, and_self, and_true, true_and, not_true, not_false_iff, ne_eq, true_or, or_true, or_false, false_or, nI_s, nI_leP, nI_eqP, x.k, ↓xb_eq (FX8_moduleAt_v x hl hk), C.k, ↓xnn_e (C.l), C.lk, ↓xb_eq (has_t C.2.2.2.1.1 C.2.2.2.1.2.1 hg), ↓xb_eq (has_t C.2.2.2.1.1 C.2.2.2.1.2.1 hf), ↓dT0b, ↓dT1b, ↓dF0b, ↓dF1b, i1_0, x.re hk, nI_eq0, hw]
            · have y0 := y.t 0
              have e2 := FX9_noLower_v (E := E) y0 hl hk hf
              rw [yi_yi] at e2
              unfold FX9_between
              simp (disch := omega) only [↓xg, ↓reduceIte, ↓xjn_d, ↓xlt_d, eq_self, and_self, and_true, true_and, not_true, not_false_iff, ne_eq, true_or, or_true, or_false, false_or, nI_s, nI_leP, nI_eqP, y.l.1, ↓xb_eq (FX9_noLower_v y hl hk hg), y0.l.1, ↓xb_eq (e2), ↓xb_eq (y0.why hk), nI_eq0, hw, ↓xb_eq (FX9_refuse_1 y.l (c := 3) (by decide)), i1_0]
              try rfl
end AG
