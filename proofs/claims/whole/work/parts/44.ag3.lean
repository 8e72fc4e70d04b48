/-! Class and reference answer alike: pairs, large groups. -/
set_option linter.unusedVariables false
theorem xq_ev {α : Type} {m : XP α} {Q : α ⊕ Nat → XH → Prop} {v : α} {h : XH} (e : m = xv v h) (q : Q (.inl v) h) : xq m Q := ⟨_, _, e, q⟩
theorem xq_exx {α : Type} {m : XP α} {Q : α ⊕ Nat → XH → Prop} {c : Nat} {h : XH} (e : m = xx c h) (q : Q (.inr c) h) : xq m Q := ⟨_, _, e, q⟩
theorem refuse_1g {E : XG} {h : XH} {Y : Nat} (y : YL h Y) (e : xi h Y 0 = 0) {c : Int32} (hc : ¬ c = 0) : FX9_refuse E Y 1 c h = xv 1 (yi h Y 0 c) := by
  have y1 : YL (yi h Y 0 c) Y := y
  unfold FX9_refuse
  simp (disch := omega) only [↓xg, ↓reduceIte, ↓xjn_d, ↓xlt_d, eq_self, and_self, and_true, true_and, not_true, not_false_iff, ne_eq, true_or, or_true, or_false, false_or, nI_s, nI_leP, nI_eqP, y.1, e, i1_0, y1.1, xi_yi1, hc]
theorem refuse_0g {E : XG} {h : XH} {Y : Nat} (y : YL h Y) (e : xi h Y 0 = 0) (c : Int32) : FX9_refuse E Y 0 c h = xv 0 h := by
  unfold FX9_refuse
  simp (disch := omega) only [↓xg, ↓reduceIte, ↓xjn_d, ↓xlt_d, eq_self, and_self, and_true, true_and, not_true, not_false_iff, ne_eq, true_or, or_true, or_false, false_or, nI_s, nI_leP, nI_eqP, y.1, e]
theorem FX4_has_v {E : XG} {h : XH} {P n : Nat} (hk : xk h P = 5) (hc : xi h P 4 = nI n) (hn : n < 2 ^ 31) (p : Int32) : FX4_has E P p h = xv (bI (inr p n)) h := by
  unfold FX4_has
  cases e : inr p n
  · rcases inr_no e with c | ⟨c1, c2⟩
    · simp (disch := omega) only [↓xg, ↓reduceIte, ↓xjn_d, ↓xlt_d, eq_self, and_self, and_true, true_and, not_true, not_false_iff, ne_eq, true_or, or_true, or_false, false_or, nI_s, nI_leP, nI_eqP, c]
      rfl
    · simp (disch := omega) only [↓xg, ↓reduceIte, ↓xjn_d, ↓xlt_d, eq_self, and_self, and_true, true_and, not_true, not_false_iff, ne_eq, true_or, or_true, or_false, false_or, nI_s, nI_leP, nI_eqP, c1, hk, hc, c2]
      rfl
  · obtain ⟨k, hk2, rfl⟩ := inr_of hn e
    have c1 : ¬ nI k < (0 : Int32) := by rw [nI_lt0 (by omega)]; exact id
    have c2 : ¬ n ≤ k := by omega
    simp (disch := omega) only [↓xg, ↓reduceIte, ↓xjn_d, ↓xlt_d, eq_self, and_self, and_true, true_and, not_true, not_false_iff, ne_eq, true_or, or_true, or_false, false_or, nI_s, nI_leP, nI_eqP, c1, hk, hc, c2]
    rfl
theorem in_t {E : XG} {h : XH} {k n : Nat} (hn : n < 2 ^ 31) (hk : k < n) : FX9_in E (nI k) 0 (nI n - 1) h = xv 1 h := by rw [FX9_in_v (nI k) hn, inr_nI hn hk]; rfl
theorem in_f {E : XG} {h : XH} {p : Int32} {n : Nat} (hn : n < 2 ^ 31) (hp : inr p n = false) : FX9_in E p 0 (nI n - 1) h = xv 0 h := by rw [FX9_in_v p hn, hp]; rfl
section AG
variable {E : XG} {h : XH} {X Y O : Nat} {Z : ZD}
theorem XI.lw {w s f : Nat} (x : XI h X w s f Z) {m : Nat} (hm : m < snm (zS Z)) (hw : whS (zS Z) (zT Z) m = 0) : LW (mdS (zS Z) (zT Z) m) := LW_of (x.ci.wd hm) (x.ci.gd hm) hw
/-- the pair of a lawful module, fresh -/
theorem fresh_o {w s f : Nat} (x : XI h X w s f Z) {m : Nat} (hm : m < snm (zS Z)) (hw : whS (zS Z) (zT Z) m = 0) : xo (FX1_freshPair E (w + 32 + 8 * m) h) (fun v h' => v = w + 32 + 8 * m + 3 ∧ iw (rXP X) h h' ∧ XI h' X w s f Z ∧ PR h' (w + 32 + 8 * m) (mdS (zS Z) (zT Z) m)) := by
  have h6 := x.ci.1.1.1.2.1
  have apm := x.ci.apm hm
  refine xo_w (FX1_freshPair_o (x.ci.cm hm) (x.lw hm hw) apm.1 apm.2) (fun v h' q => ?_)
  obtain ⟨q1, q2, q3⟩ := q
  have q4 : iw (rXP X) h h' := q2.wide (fun a z => x.rp (rPW_of (by omega) z))
  exact ⟨q1, q4, XI_iw x q4 (fun a z => Or.inr (Or.inr z)), q3⟩
/-- the classes laid out by the reference -/
theorem lays_o {h' : XH} (y : YI h' Y Z) {m : Nat} (hm : m < snm (zS Z)) (hw : whS (zS Z) (zT Z) m = 0) : xo (FX9_laysClasses E Y (nI m) (yi h' Y 0 0)) (fun v h2 => v = nI (ccN (mdS (zS Z) (zT Z) m)) ∧ iw (rEq Y) (yi h' Y 0 0) h2 ∧ YI h2 Y Z ∧ YC h2 Y (mdS (zS Z) (zT Z) m) ∧ xi h2 Y 0 = 0) := by
  have y0 := y.t 0
  refine xo_w (FX9_laysClasses_o (y0.1.1.ym hm) (LW_of (y0.1.1.wd hm) (y0.1.1.gd hm) hw)) (fun v h2 q => ?_)
  obtain ⟨q1, q2, q3⟩ := q
  have q4 : iw (rEq Y) (yi h' Y 0 0) h2 := q2.wide (fun a z => by unfold rCl at z; unfold rEq; omega)
  refine ⟨q1, q4, YI_iw y0 q4 (fun a z => by unfold rEq at z; omega), q3, ?_⟩
  rw [q2.i _ (fun z => by unfold rCl at z; omega), xi_yi1]
theorem rEqY (Y : Nat) : ¬ rEq Y Y := fun q => by unfold rEq at q; omega
theorem ag_classes (j : JJ h X Y O Z) (p : Int32) : AGx X Y (cmT [0, 1, 2]) h Z (FX8_classes E X p) (FX9_classes E Y p) := by
  obtain ⟨z, -, -, ⟨w, s, f, x⟩, y⟩ := j
  have bn := x.ci.1.1.1
  cases hl : zld Z
  · refine AG_x 0 1 0 ?_ (fun h' y => ?_) (by decide)
    · unfold FX8_classes
      rw [xg_t x.k, FX8_lawfulModuleAt_0 x hl]
      first | rfl | (rw [xnn_e x.w5, xg_t x.k]; rfl)
    · unfold FX9_classes
      simp (disch := omega) only [↓xg, ↓reduceIte, ↓xjn_d, ↓xlt_d, eq_self, and_self, and_true, true_and, not_true, not_false_iff, ne_eq, true_or, or_true, or_false, false_or, nI_s, nI_leP, nI_eqP, y.l.1, ↓xb_eq (FX9_notLawful_0 y hl p), i1_0, nI_0]
      try rfl
  · cases hp : inr p (snm (zS Z))
    · refine AG_x 1 2 0 ?_ (fun h' y => ?_) (by decide)
      · unfold FX8_classes
        rw [xg_t x.k, FX8_lawfulModuleAt_1 x hl hp]
        first | rfl | (rw [xnn_e x.w5, xg_t x.k]; rfl)
      · unfold FX9_classes
        simp (disch := omega) only [↓xg, ↓reduceIte, ↓xjn_d, ↓xlt_d, eq_self, and_self, and_true, true_and, not_true, not_false_iff, ne_eq, true_or, or_true, or_false, false_or, nI_s, nI_leP, nI_eqP, y.l.1, ↓xb_eq (FX9_notLawful_1 y hl hp), i1_0]
        try rfl
    · obtain ⟨m, hk, rfl⟩ := inr_of (by omega) hp
      by_cases hw : whS (zS Z) (zT Z) m = 0
      · have bm := y.bm hk
        have L := x.lw hk hw
        have c8 := ccN_8 L
        have C := x.ci.cm hk
        refine AG_o (nI (ccN (mdS (zS Z) (zT Z) m))) ?_ (fun h' y => ?_)
        · unfold FX8_classes
          refine xo_g x.k (xo_eb (FX8_lawfulModuleAt_v x hl hk hw) (xo_g C.k (xo_b (fresh_o x hk hw) (fun v h4 q4 => ?_))))
          obtain ⟨rfl, i4, x4, p4⟩ := q4
          exact xo_g (x4.ci.cm hk).pk (xo_v ⟨p4.1.cc, i4⟩)
        · unfold FX9_classes
          refine xo_g y.l.1 (xo_eb (FX9_notLawful_v y hl hk hw) (xo_jn (xo_t rfl (xo_g (y.t 0).l.1 (xo_b (lays_o y hk hw) (fun v h2 q2 => ?_))))))
          obtain ⟨rfl, i2, -⟩ := q2
          exact xo_v ⟨rfl, i2⟩
      · refine AG_x 2 3 0 ?_ (fun h' y => ?_) (by decide)
        · unfold FX8_classes
          rw [xg_t x.k, FX8_lawfulModuleAt_2 x hl hk hw]
          first | rfl | (rw [xnn_e x.w5, xg_t x.k]; rfl)
        · unfold FX9_classes
          simp (disch := omega) only [↓xg, ↓reduceIte, ↓xjn_d, ↓xlt_d, eq_self, and_self, and_true, true_and, not_true, not_false_iff, ne_eq, true_or, or_true, or_false, false_or, nI_s, nI_leP, nI_eqP, y.l.1, ↓xb_eq (FX9_notLawful_2 y hl hk hw), i1_0]
          try rfl
theorem ag_classOf (j : JJ h X Y O Z) (p q : Int32) : AGx X Y (cmT [0, 1, 2]) h Z (FX8_classOf E X p q) (FX9_classOf E Y p q) := by
  obtain ⟨z, -, -, ⟨w, s, f, x⟩, y⟩ := j
  have bn := x.ci.1.1.1
  cases hl : zld Z
  · refine AG_x 0 1 0 ?_ (fun h' y => ?_) (by decide)
    · unfold FX8_classOf
      rw [xg_t x.k, FX8_moduleAt_0 x hl]
      first | rfl | (rw [xnn_e x.w5, xg_t x.k]; rfl)
    · unfold FX9_classOf
      simp (disch := omega) only [↓xg, ↓reduceIte, ↓xjn_d, ↓xlt_d, eq_self, and_self, and_true, true_and, not_true, not_false_iff, ne_eq, true_or, or_true, or_false, false_or, nI_s, nI_leP, nI_eqP, y.l.1, ↓xb_eq (FX9_noLower_0 y hl p q), i1_0, nI_0]
      try rfl
  · cases hp : inr p (snm (zS Z))
    · refine AG_x 1 2 0 ?_ (fun h' y => ?_) (by decide)
      · unfold FX8_classOf
        rw [xg_t x.k, FX8_moduleAt_1 x hl hp]
        first | rfl | (rw [xnn_e x.w5, xg_t x.k]; rfl)
      · unfold FX9_classOf
        simp (disch := omega) only [↓xg, ↓reduceIte, ↓xjn_d, ↓xlt_d, eq_self, and_self, and_true, true_and, not_true, not_false_iff, ne_eq, true_or, or_true, or_false, false_or, nI_s, nI_leP, nI_eqP, y.l.1, ↓xb_eq (FX9_noLower_1 y hl hp q), i1_0]
        try rfl
    · obtain ⟨m, hk, rfl⟩ := inr_of (by omega) hp
      have bm := y.bm hk
      have C := x.ci.cm hk
      have hw5 := whS_le (zS Z) (zT Z) m
      cases hq : inr q (nlS2 (zS Z) m)
      · refine AG_x 1 2 0 ?_ (fun h' y => ?_) (by decide)
        · unfold FX8_classOf
          simp (disch := omega) only [↓xg, ↓reduceIte, ↓xjn_d, ↓xlt_d, eq_self, and_self, and_true, true_and, not_true, not_false_iff, ne_eq, true_or, or_true, or_false, false_or, nI_s, nI_leP, nI_eqP, x.k, ↓xb_eq (FX8_moduleAt_v x hl hk), C.k, ↓xnn_e (C.l), C.lk, ↓xb_eq (has_f C.2.2.2.1.1 C.2.2.2.1.2.1 hq), ↓dT0b, ↓dT1b, ↓dF0b, ↓dF1b, i1_0]
        · unfold FX9_classOf
          simp (disch := omega) only [↓xg, ↓reduceIte, ↓xjn_d, ↓xlt_d, eq_self, and_self, and_true, true_and, not_true, not_false_iff, ne_eq, true_or, or_true, or_false, false_or, nI_s, nI_leP, nI_eqP, y.l.1, ↓xb_eq (FX9_noLower_2 y hl hk hq), i1_0]
          try rfl
      · obtain ⟨g, hg, rfl⟩ := inr_of (by omega) hq
        by_cases hw : whS (zS Z) (zT Z) m = 0
        · have L := x.lw hk hw
          have c8 := ccN_8 L
          refine AG_o (nI (nmS (mdS (zS Z) (zT Z) m) g)) ?_ (fun h' y => ?_)
          · unfold FX8_classOf
            refine xo_g x.k (xo_eb (FX8_moduleAt_v x hl hk) (xo_g C.k (xo_n C.l (xo_g C.lk (xo_eb (has_t C.2.2.2.1.1 C.2.2.2.1.2.1 hg) ?_)))))
            rw [dT1b]
            refine xo_g C.k (xo_jn ?_)
            rw [x.re hk, hw]
            refine xo_t rfl ?_
            dsimp only
            rw [dF1b]
            refine xo_g C.k (xo_b (fresh_o x hk hw) (fun v h4 q4 => ?_))
            obtain ⟨rfl, i4, x4, p4⟩ := q4
            have C4 := x4.ci.cm hk
            refine xo_g C4.pk (xo_eb (C4.ch (show g < 8 by omega)) (xo_v ⟨p4.1.nm L hg, i4⟩))
          · have y0 := y.t 0
            unfold FX9_classOf
            refine xo_g y.l.1 (xo_eb (FX9_noLower_v y hl hk hg) (xo_jn (xo_t rfl (xo_g y0.l.1 (xo_eb (y0.why hk) (xo_jn ?_))))))
            rw [hw]
            refine xo_t rfl ?_
            dsimp only
            refine xo_g y0.l.1 (xo_eb (FX9_refuse_0 y.l 3) (xo_t rfl (xo_g y0.l.1 (xo_b (lays_o y hk hw) (fun v h2 q2 => ?_)))))
            obtain ⟨rfl, i2, y2, yc, -⟩ := q2
            refine xo_g y2.l.1 (xo_n y2.l.r22 (xo_g (y2.l.g22 (show g < 8 by omega)) (xo_v ⟨?_, i2⟩)))
            rw [xz_nI (by omega)]
            exact yc.1 g hg
        · refine AG_x 2 3 0 ?_ (fun h' y => ?_) (by decide)
          · unfold FX8_classOf
            simp (disch := omega) only [↓xg, ↓reduceIte, ↓xjn_d, ↓xlt_d, eq_self, and_self, and_true, true_and, not_true, not_false_iff, ne_eq, true_or, or_true, or_false, false_or, nI_s, nI_leP, nI_eqP, x.k, ↓xb_eq (FX8_moduleAt_v x hl hk), C.k, ↓xnn_e (C.l), C.lk, ↓xb_eq (has_t C.2.2.2.1.1 C.2.2.2.1.2.1 hg), ↓dT0b, ↓dT1b, ↓dF0b, ↓dF1b, i1_0, x.re hk, nI_eq0, hw]
          · have y0 := y.t 0
            unfold FX9_classOf
            simp (disch := omega) only [↓xg, ↓reduceIte, ↓xjn_d, ↓xlt_d, eq_self, and_self, and_true, true_and, not_true, not_false_iff, ne_eq, true_or, or_true, or_false, false_or, nI_s, nI_leP, nI_eqP, y.l.1, ↓xb_eq (FX9_noLower_v y hl hk hg), y0.l.1, ↓xb_eq (y0.why hk), nI_eq0, hw, ↓xb_eq (FX9_refuse_1 y.l (c := 3) (by decide)), i1_0]
            try rfl
theorem ag_classTimes (j : JJ h X Y O Z) (p q r : Int32) : AGx X Y (cmT [0, 1, 2]) h Z (FX8_classTimes E X p q r) (FX9_classTimes E Y p q r) := by
  obtain ⟨z, -, -, ⟨w, s, f, x⟩, y⟩ := j
  have bn := x.ci.1.1.1
  cases hl : zld Z
  · refine AG_x 0 1 0 ?_ (fun h' y => ?_) (by decide)
    · unfold FX8_classTimes
      rw [xg_t x.k, FX8_lawfulModuleAt_0 x hl]
      first | rfl | (rw [xnn_e x.w5, xg_t x.k]; rfl)
    · unfold FX9_classTimes
      simp (disch := omega) only [↓xg, ↓reduceIte, ↓xjn_d, ↓xlt_d, eq_self, and_self, and_true, true_and, not_true, not_false_iff, ne_eq, true_or, or_true, or_false, false_or, nI_s, nI_leP, nI_eqP, y.l.1, ↓xb_eq (FX9_notLawful_0 y hl p), i1_0, nI_0]
      try rfl
  · cases hp : inr p (snm (zS Z))
    · refine AG_x 1 2 0 ?_ (fun h' y => ?_) (by decide)
      · unfold FX8_classTimes
        rw [xg_t x.k, FX8_lawfulModuleAt_1 x hl hp]
        first | rfl | (rw [xnn_e x.w5, xg_t x.k]; rfl)
      · unfold FX9_classTimes
        simp (disch := omega) only [↓xg, ↓reduceIte, ↓xjn_d, ↓xlt_d, eq_self, and_self, and_true, true_and, not_true, not_false_iff, ne_eq, true_or, or_true, or_false, false_or, nI_s, nI_leP, nI_eqP, y.l.1, ↓xb_eq (FX9_notLawful_1 y hl hp), i1_0]
        try rfl
    · obtain ⟨m, hk, rfl⟩ := inr_of (by omega) hp
      by_cases hw : whS (zS Z) (zT Z) m = 0
      · have bm := y.bm hk
        have L := x.lw hk hw
        have c8 := ccN_8 L
        have C := x.ci.cm hk
        have F1 : ∀ {h4 : XH} (x4 : XI h4 X w s f Z) (p4 : PR h4 (w + 32 + 8 * m) (mdS (zS Z) (zT Z) m)) (q : Int32), FX4_has E (w + 32 + 8 * m + 3) q h4 = xv (bI (inr q (ccN (mdS (zS Z) (zT Z) m)))) h4 := fun x4 p4 q => FX4_has_v (x4.ci.cm hk).pk p4.1.cc (by omega) q
        have bad : (inr q (ccN (mdS (zS Z) (zT Z) m)) && inr r (ccN (mdS (zS Z) (zT Z) m))) = false → AGx X Y (cmT [0, 1, 2]) h Z (FX8_classTimes E X (nI m) q r) (FX9_classTimes E Y (nI m) q r) := fun hb => by
          refine AG_q 2 3 0 ?_ (fun h' y => ?_) (by decide)
          · unfold FX8_classTimes
            refine xq_g x.k (xq_eb (FX8_lawfulModuleAt_v x hl hk hw) (xq_g C.k (xq_b (fresh_o x hk hw) (fun v h4 q4 => ?_))))
            obtain ⟨rfl, i4, x4, p4⟩ := q4
            have e1 := F1 x4 p4 q
            have e2 := F1 x4 p4 r
            refine xq_exx (c := 2) (h := h4) ?_ ⟨rfl, i4⟩
            cases c1 : inr q (ccN (mdS (zS Z) (zT Z) m))
            · rw [c1] at e1
              have e1 : FX4_has E (w + 32 + 8 * m + 3) q h4 = xv 0 h4 := e1
              simp (disch := omega) only [↓xg, ↓reduceIte, ↓xjn_d, ↓xlt_d, eq_self, and_self, and_true, true_and, not_true, not_false_iff, ne_eq, true_or, or_true, or_false, false_or, nI_s, nI_leP, nI_eqP, (x4.ci.cm hk).pk, ↓xb_eq (e1), ↓dT0b, ↓dT1b, ↓dF0b, ↓dF1b, i1_0]
            · rw [c1] at e1 hb
              have e1 : FX4_has E (w + 32 + 8 * m + 3) q h4 = xv 1 h4 := e1
              rw [show inr r (ccN (mdS (zS Z) (zT Z) m)) = false by simpa using hb] at e2
              have e2 : FX4_has E (w + 32 + 8 * m + 3) r h4 = xv 0 h4 := e2
              simp (disch := omega) only [↓xg, ↓reduceIte, ↓xjn_d, ↓xlt_d, eq_self, and_self, and_true, true_and, not_true, not_false_iff, ne_eq, true_or, or_true, or_false, false_or, nI_s, nI_leP, nI_eqP, (x4.ci.cm hk).pk, ↓xb_eq (e1), ↓xb_eq (e2), ↓dT0b, ↓dT1b, ↓dF0b, ↓dF1b, i1_0]
          · unfold FX9_classTimes
            refine xo_g y.l.1 (xo_eb (FX9_notLawful_v y hl hk hw) (xo_t rfl (xo_g (y.t 0).l.1 (xo_b (lays_o y hk hw) (fun v h2 q2 => ?_)))))
            obtain ⟨rfl, i2, y2, yc, z2⟩ := q2
            refine xo_e (v := 0) (h := yi h2 Y 0 3) ?_ ⟨rfl, iw_th i2 (rEqY Y)⟩
            cases c1 : inr q (ccN (mdS (zS Z) (zT Z) m))
            · simp (disch := omega) only [↓xg, ↓reduceIte, ↓xjn_d, ↓xlt_d, eq_self, and_self, and_true, true_and, not_true, not_false_iff, ne_eq, true_or, or_true, or_false, false_or, nI_s, nI_leP, nI_eqP, ↓xb_eq (in_f (E := E) (h := h2) (show ccN (mdS (zS Z) (zT Z) m) < 2 ^ 31 by omega) c1), y2.l.1, ↓xb_eq (refuse_1g y2.l z2 (c := 3) (by decide)), i1_0]
            · rw [c1] at hb
              obtain ⟨a, ha, rfl⟩ := inr_of (by omega) c1
              simp (disch := omega) only [↓xg, ↓reduceIte, ↓xjn_d, ↓xlt_d, eq_self, and_self, and_true, true_and, not_true, not_false_iff, ne_eq, true_or, or_true, or_false, false_or, nI_s, nI_leP, nI_eqP, ↓xb_eq (in_t (E := E) (h := h2) (show ccN (mdS (zS Z) (zT Z) m) < 2 ^ 31 by omega) ha), ↓xb_eq (in_f (E := E) (h := h2) (show ccN (mdS (zS Z) (zT Z) m) < 2 ^ 31 by omega) (show inr r (ccN (mdS (zS Z) (zT Z) m)) = false by simpa using hb)), y2.l.1, ↓xb_eq (refuse_1g y2.l z2 (c := 3) (by decide)), i1_0]
        cases c1 : inr q (ccN (mdS (zS Z) (zT Z) m))
        · exact bad (by rw [c1]; rfl)
        · cases c2 : inr r (ccN (mdS (zS Z) (zT Z) m))
          · exact bad (by rw [c1, c2]; rfl)
          · obtain ⟨a, ha, rfl⟩ := inr_of (by omega) c1
            obtain ⟨b, hb, rfl⟩ := inr_of (by omega) c2
            refine AG_o (nI (cpS (mdS (zS Z) (zT Z) m) a b)) ?_ (fun h' y => ?_)
            · unfold FX8_classTimes
              refine xo_g x.k (xo_eb (FX8_lawfulModuleAt_v x hl hk hw) (xo_g C.k (xo_b (fresh_o x hk hw) (fun v h4 q4 => ?_))))
              obtain ⟨rfl, i4, x4, p4⟩ := q4
              have C4 := x4.ci.cm hk
              have e1 := F1 x4 p4 (nI a)
              have e2 := F1 x4 p4 (nI b)
              rw [c1] at e1
              rw [c2] at e2
              have e1 : FX4_has E (w + 32 + 8 * m + 3) (nI a) h4 = xv 1 h4 := e1
              have e2 : FX4_has E (w + 32 + 8 * m + 3) (nI b) h4 = xv 1 h4 := e2
              refine xo_e (v := nI (cpS (mdS (zS Z) (zT Z) m) a b)) (h := h4) ?_ ⟨rfl, i4⟩
              simp (disch := omega) only [↓xg, ↓reduceIte, ↓xjn_d, ↓xlt_d, eq_self, and_self, and_true, true_and, not_true, not_false_iff, ne_eq, true_or, or_true, or_false, false_or, nI_s, nI_leP, nI_eqP, C4.pk, ↓xb_eq (e1), ↓xb_eq (e2), ↓dT0b, ↓dT1b, ↓dF0b, ↓dF1b, i1_0, C4.k, ↓xnn_e (C4.l), ↓xb_eq (FX4_product_v C4 L p4.1 ha hb)]
            · unfold FX9_classTimes
              refine xo_g y.l.1 (xo_eb (FX9_notLawful_v y hl hk hw) (xo_t rfl (xo_g (y.t 0).l.1 (xo_b (lays_o y hk hw) (fun v h2 q2 => ?_)))))
              obtain ⟨rfl, i2, y2, yc, z2⟩ := q2
              refine xo_e (v := nI (cpS (mdS (zS Z) (zT Z) m) a b)) (h := h2) ?_ ⟨rfl, i2⟩
              simp (disch := omega) only [↓xg, ↓reduceIte, ↓xjn_d, ↓xlt_d, eq_self, and_self, and_true, true_and, not_true, not_false_iff, ne_eq, true_or, or_true, or_false, false_or, nI_s, nI_leP, nI_eqP, ↓xb_eq (in_t (E := E) (h := h2) (show ccN (mdS (zS Z) (zT Z) m) < 2 ^ 31 by omega) ha), ↓xb_eq (in_t (E := E) (h := h2) (show ccN (mdS (zS Z) (zT Z) m) < 2 ^ 31 by omega) hb), y2.l.1, ↓xb_eq (refuse_0g y2.l z2 3), i1_0, ↓xb_eq (FX9_classProduct_v (y2.1.1.ym hk) L yc ha hb)]
      · refine AG_x 2 3 0 ?_ (fun h' y => ?_) (by decide)
        · unfold FX8_classTimes
          rw [xg_t x.k, FX8_lawfulModuleAt_2 x hl hk hw]
          first | rfl | (rw [xnn_e x.w5, xg_t x.k]; rfl)
        · unfold FX9_classTimes
          simp (disch := omega) only [↓xg, ↓reduceIte, ↓xjn_d, ↓xlt_d, eq_self, and_self, and_true, true_and, not_true, not_false_iff, ne_eq, true_or, or_true, or_false, false_or, nI_s, nI_leP, nI_eqP, y.l.1, ↓xb_eq (FX9_notLawful_2 y hl hk hw), i1_0]
          try rfl
theorem ag_classAct (j : JJ h X Y O Z) (p q r : Int32) : AGx X Y (cmT [0, 1, 2]) h Z (FX8_classAct E X p q r) (FX9_classAct E Y p q r) := by
  obtain ⟨z, -, -, ⟨w, s, f, x⟩, y⟩ := j
  have bn := x.ci.1.1.1
  cases hl : zld Z
  · refine AG_x 0 1 0 ?_ (fun h' y => ?_) (by decide)
    · unfold FX8_classAct
      rw [xg_t x.k, FX8_lawfulModuleAt_0 x hl]
      first | rfl | (rw [xnn_e x.w5, xg_t x.k]; rfl)
    · unfold FX9_classAct
      simp (disch := omega) only [↓xg, ↓reduceIte, ↓xjn_d, ↓xlt_d, eq_self, and_self, and_true, true_and, not_true, not_false_iff, ne_eq, true_or, or_true, or_false, false_or, nI_s, nI_leP, nI_eqP, y.l.1, ↓xb_eq (FX9_notLawful_0 y hl p), i1_0, nI_0]
      try rfl
  · cases hp : inr p (snm (zS Z))
    · refine AG_x 1 2 0 ?_ (fun h' y => ?_) (by decide)
      · unfold FX8_classAct
        rw [xg_t x.k, FX8_lawfulModuleAt_1 x hl hp]
        first | rfl | (rw [xnn_e x.w5, xg_t x.k]; rfl)
      · unfold FX9_classAct
        simp (disch := omega) only [↓xg, ↓reduceIte, ↓xjn_d, ↓xlt_d, eq_self, and_self, and_true, true_and, not_true, not_false_iff, ne_eq, true_or, or_true, or_false, false_or, nI_s, nI_leP, nI_eqP, y.l.1, ↓xb_eq (FX9_notLawful_1 y hl hp), i1_0]
        try rfl
    · obtain ⟨m, hk, rfl⟩ := inr_of (by omega) hp
      by_cases hw : whS (zS Z) (zT Z) m = 0
      · have bm := y.bm hk
        have L := x.lw hk hw
        have c8 := ccN_8 L
        have C := x.ci.cm hk
        have F1 : ∀ {h4 : XH} (x4 : XI h4 X w s f Z) (p4 : PR h4 (w + 32 + 8 * m) (mdS (zS Z) (zT Z) m)) (q : Int32), FX4_has E (w + 32 + 8 * m + 3) q h4 = xv (bI (inr q (ccN (mdS (zS Z) (zT Z) m)))) h4 := fun x4 p4 q => FX4_has_v (x4.ci.cm hk).pk p4.1.cc (by omega) q
        have u8 : dnu (mdS (zS Z) (zT Z) m) ≤ 8 := bm.2.2.2.1
        have bad : (inr q (ccN (mdS (zS Z) (zT Z) m)) = false ∨ inr r (dnu (mdS (zS Z) (zT Z) m)) = false ∨ ∃ a, a < dnu (mdS (zS Z) (zT Z) m) ∧ r = nI a ∧ ¬ dbd (mdS (zS Z) (zT Z) m) a = 0) → AGx X Y (cmT [0, 1, 2]) h Z (FX8_classAct E X (nI m) q r) (FX9_classAct E Y (nI m) q r) := fun hb => by
          refine AG_q 2 3 0 ?_ (fun h' y => ?_) (by decide)
          · unfold FX8_classAct
            refine xq_g x.k (xq_eb (FX8_lawfulModuleAt_v x hl hk hw) (xq_g C.k (xq_b (fresh_o x hk hw) (fun v h4 q4 => ?_))))
            obtain ⟨rfl, i4, x4, p4⟩ := q4
            have C4 := x4.ci.cm hk
            have e1 := F1 x4 p4 q
            refine xq_exx (c := 2) (h := h4) ?_ ⟨rfl, i4⟩
            cases c1 : inr q (ccN (mdS (zS Z) (zT Z) m))
            · rw [c1] at e1
              have e1 : FX4_has E (w + 32 + 8 * m + 3) q h4 = xv 0 h4 := e1
              simp (disch := omega) only [↓xg, ↓reduceIte, ↓xjn_d, ↓xlt_d, eq_self, and_self, and_true, true_and, not_true, not_false_iff, ne_eq, true_or, or_true, or_false, false_or, nI_s, nI_leP, nI_eqP, C4.pk, ↓xb_eq (e1), ↓dT0b, ↓dT1b, ↓dF0b, ↓dF1b, i1_0]
            · rw [c1] at e1 hb
              have e1 : FX4_has E (w + 32 + 8 * m + 3) q h4 = xv 1 h4 := e1
              rcases hb with z | z | ⟨a, ha, rfl, z⟩
              · cases z
              · simp (disch := omega) only [↓xg, ↓reduceIte, ↓xjn_d, ↓xlt_d, eq_self, and_self, and_true, true_and, not_true, not_false_iff, ne_eq, true_or, or_true, or_false, false_or, nI_s, nI_leP, nI_eqP, C4.pk, ↓xb_eq (e1), ↓dT0b, ↓dT1b, ↓dF0b, ↓dF1b, i1_0, C4.k, ↓xnn_e (C4.u), C4.uk, ↓xb_eq (has_f C4.2.2.1.1 C4.2.2.1.2.1 z)]
              · have q1 := C4.wd.2.2.2.2.2.1 a ha
                have l8 : dnl (mdS (zS Z) (zT Z) m) ≤ 8 := bm.2.2.2.2
                simp (disch := omega) only [↓xg, ↓reduceIte, ↓xjn_d, ↓xlt_d, eq_self, and_self, and_true, true_and, not_true, not_false_iff, ne_eq, true_or, or_true, or_false, false_or, nI_s, nI_leP, nI_eqP, C4.pk, ↓xb_eq (e1), ↓dT0b, ↓dT1b, ↓dF0b, ↓dF1b, i1_0, C4.k, ↓xnn_e (C4.u), C4.uk, ↓xb_eq (has_t C4.2.2.1.1 C4.2.2.1.2.1 ha), ↓xb_eq (C4.bd ha), nI_eq0, z]
          · unfold FX9_classAct
            refine xo_g y.l.1 (xo_eb (FX9_notLawful_v y hl hk hw) (xo_t rfl (xo_g (y.t 0).l.1 (xo_b (lays_o y hk hw) (fun v h2 q2 => ?_)))))
            obtain ⟨rfl, i2, y2, yc, z2⟩ := q2
            have M2 := y2.1.1.ym hk
            refine xo_e (v := 0) (h := yi h2 Y 0 3) ?_ ⟨rfl, iw_th i2 (rEqY Y)⟩
            cases c1 : inr q (ccN (mdS (zS Z) (zT Z) m))
            · simp (disch := omega) only [↓xg, ↓reduceIte, ↓xjn_d, ↓xlt_d, eq_self, and_self, and_true, true_and, not_true, not_false_iff, ne_eq, true_or, or_true, or_false, false_or, nI_s, nI_leP, nI_eqP, ↓xb_eq (in_f (E := E) (h := h2) (show ccN (mdS (zS Z) (zT Z) m) < 2 ^ 31 by omega) c1), y2.l.1, ↓xb_eq (refuse_1g y2.l z2 (c := 3) (by decide)), i1_0]
            · rw [c1] at hb
              obtain ⟨a, ha, rfl⟩ := inr_of (by omega) c1
              rcases hb with z | z | ⟨b, hb2, rfl, z⟩
              · cases z
              · simp (disch := omega) only [↓xg, ↓reduceIte, ↓xjn_d, ↓xlt_d, eq_self, and_self, and_true, true_and, not_true, not_false_iff, ne_eq, true_or, or_true, or_false, false_or, nI_s, nI_leP, nI_eqP, ↓xb_eq (in_t (E := E) (h := h2) (show ccN (mdS (zS Z) (zT Z) m) < 2 ^ 31 by omega) ha), i1_0, y2.l.1, ↓xb_eq (FX9_uppers_v M2), ↓xb_eq (in_f (E := E) (h := h2) (show dnu (mdS (zS Z) (zT Z) m) < 2 ^ 31 by omega) z), ↓xb_eq (refuse_1g y2.l z2 (c := 3) (by decide))]
              · have q1 := C.wd.2.2.2.2.2.1 b hb2
                have l8 : dnl (mdS (zS Z) (zT Z) m) ≤ 8 := bm.2.2.2.2
                simp (disch := omega) only [↓xg, ↓reduceIte, ↓xjn_d, ↓xlt_d, eq_self, and_self, and_true, true_and, not_true, not_false_iff, ne_eq, true_or, or_true, or_false, false_or, nI_s, nI_leP, nI_eqP, ↓xb_eq (in_t (E := E) (h := h2) (show ccN (mdS (zS Z) (zT Z) m) < 2 ^ 31 by omega) ha), i1_0, y2.l.1, ↓xb_eq (FX9_uppers_v M2), ↓xb_eq (in_t (E := E) (h := h2) (show dnu (mdS (zS Z) (zT Z) m) < 2 ^ 31 by omega) hb2), ↓xb_eq (FX9_boundaryOf_v M2 hb2), nI_eq0, z, ↓xb_eq (refuse_1g y2.l z2 (c := 3) (by decide))]
        cases c1 : inr q (ccN (mdS (zS Z) (zT Z) m))
        · exact bad (Or.inl c1)
        · cases c2 : inr r (dnu (mdS (zS Z) (zT Z) m))
          · exact bad (Or.inr (Or.inl c2))
          · obtain ⟨a, ha, rfl⟩ := inr_of (by omega) c1
            obtain ⟨b, hb, rfl⟩ := inr_of (by omega) c2
            by_cases c3 : dbd (mdS (zS Z) (zT Z) m) b = 0
            · have q4 := L.ls ha
              have l8 := L.l8
              refine AG_o (nI (dac (mdS (zS Z) (zT Z) m) (lsS (mdS (zS Z) (zT Z) m) a) b)) ?_ (fun h' y => ?_)
              · unfold FX8_classAct
                refine xo_g x.k (xo_eb (FX8_lawfulModuleAt_v x hl hk hw) (xo_g C.k (xo_b (fresh_o x hk hw) (fun v h4 q4 => ?_))))
                obtain ⟨rfl, i4, x4, p4⟩ := q4
                have C4 := x4.ci.cm hk
                have e1 := F1 x4 p4 (nI a)
                rw [c1] at e1
                have e1 : FX4_has E (w + 32 + 8 * m + 3) (nI a) h4 = xv 1 h4 := e1
                have e3 := C4.le (E := E) (show a < 8 by omega)
                rw [p4.1.ls ha] at e3
                refine xo_e (v := nI (dac (mdS (zS Z) (zT Z) m) (lsS (mdS (zS Z) (zT Z) m) a) b)) (h := h4) ?_ ⟨rfl, i4⟩
                simp (disch := omega) only [↓xg, ↓reduceIte, ↓xjn_d, ↓xlt_d, eq_self, and_self, and_true, true_and, not_true, not_false_iff, ne_eq, true_or, or_true, or_false, false_or, nI_s, nI_leP, nI_eqP, C4.pk, ↓xb_eq (e1), ↓dT0b, ↓dT1b, ↓dF0b, ↓dF1b, i1_0, C4.k, ↓xnn_e (C4.u), C4.uk, ↓xb_eq (has_t C4.2.2.1.1 C4.2.2.1.2.1 hb), ↓xb_eq (C4.bd hb), c3, nI_0, ↓xb_eq (e3), ↓xb_eq (C4.ac q4 hb)]
              · unfold FX9_classAct
                refine xo_g y.l.1 (xo_eb (FX9_notLawful_v y hl hk hw) (xo_t rfl (xo_g (y.t 0).l.1 (xo_b (lays_o y hk hw) (fun v h2 q2 => ?_)))))
                obtain ⟨rfl, i2, y2, yc, z2⟩ := q2
                have M2 := y2.1.1.ym hk
                have e5 : FX9_on E Y (nI m) (xi h2 (Y + 21) (nI a).toNatClampNeg) (nI b) h2 = xv (nI (dac (mdS (zS Z) (zT Z) m) (lsS (mdS (zS Z) (zT Z) m) a) b)) h2 := by
                  rw [xz_nI (by omega), yc.2 a ha]; exact FX9_on_v M2 q4 hb
                refine xo_e (v := nI (dac (mdS (zS Z) (zT Z) m) (lsS (mdS (zS Z) (zT Z) m) a) b)) (h := h2) ?_ ⟨rfl, i2⟩
                simp (disch := omega) only [↓xg, ↓reduceIte, ↓xjn_d, ↓xlt_d, eq_self, and_self, and_true, true_and, not_true, not_false_iff, ne_eq, true_or, or_true, or_false, false_or, nI_s, nI_leP, nI_eqP, ↓xb_eq (in_t (E := E) (h := h2) (show ccN (mdS (zS Z) (zT Z) m) < 2 ^ 31 by omega) ha), i1_0, y2.l.1, ↓xb_eq (FX9_uppers_v M2), ↓xb_eq (in_t (E := E) (h := h2) (show dnu (mdS (zS Z) (zT Z) m) < 2 ^ 31 by omega) hb), ↓xb_eq (FX9_boundaryOf_v M2 hb), c3, nI_0, ↓xb_eq (refuse_0g y2.l z2 3), ↓xnn_e (y2.l.r21), y2.l.k21, y2.l.n21, xin_t, ↓xb_eq (e5)]
            · exact bad (Or.inr (Or.inr ⟨b, hb, rfl, c3⟩))
      · refine AG_x 2 3 0 ?_ (fun h' y => ?_) (by decide)
        · unfold FX8_classAct
          rw [xg_t x.k, FX8_lawfulModuleAt_2 x hl hk hw]
          first | rfl | (rw [xnn_e x.w5, xg_t x.k]; rfl)
        · unfold FX9_classAct
          simp (disch := omega) only [↓xg, ↓reduceIte, ↓xjn_d, ↓xlt_d, eq_self, and_self, and_true, true_and, not_true, not_false_iff, ne_eq, true_or, or_true, or_false, false_or, nI_s, nI_leP, nI_eqP, y.l.1, ↓xb_eq (FX9_notLawful_2 y hl hk hw), i1_0]
          try rfl
end AG
