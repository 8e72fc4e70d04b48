/-! Class and reference answer alike: changes. -/
set_option linter.unusedVariables false
section REH
variable {E : XG} {h h' : XH} {X Y O : Nat} {Z : ZD}
theorem R_undo (y : YI h Y Z) (z : WZ Z) (hn : 0 < zun Z) : xo (FX9_undo E Y h) (fun r h2 => r = nI (zun Z - 1) ∧ iw (rYa Y) h h2 ∧ xi h2 Y 0 = 0 ∧ YI h2 Y (zud Z)) := by
  have z8 := z.2.2.1.1
  have y0 := y.t 0
  have e0 : xi (yi h Y 0 0) Y 0 = 0 := xi_yi1 _ _ _ _
  have e14 : xi (yi h Y 0 0) Y 14 = nI (zun Z) := y0.2.2.1.1
  have i0 : iw (rYa Y) h (yi h Y 0 0) := iw_yi _ _ _ _ (by unfold rYa; omega)
  unfold FX9_undo
  refine xo_g y.l.1 (xo_lt ?_)
  generalize yi h Y 0 0 = h1 at y0 e0 e14 i0 ⊢
  have ws := y0.ws
  have u0 := y0.2.2.1.2
  refine xo_g y0.l.1 (xo_jn ?_)
  rw [e14]
  refine xo_f (by rw [nI_eq0 (by omega)]; omega) (xo_g y0.l.1 (xo_eb (refuse_0g y0.l e0 1) (xo_t rfl (xo_g y0.l.1 (xo_g y0.l.1 (xo_lt ?_))))))
  rw [e14, nI_p _ (by omega) hn]
  have j2 : iw (fun a => a = Y) h1 (yi h1 Y 14 (nI (zun Z - 1))) := iw_yi _ _ _ _ rfl
  have f2 : xi (yi h1 Y 14 (nI (zun Z - 1))) Y 14 = nI (zun Z - 1) := xi_yi1 _ _ _ _
  have k2 : ∀ k, k ≠ 14 → xi (yi h1 Y 14 (nI (zun Z - 1))) Y k = xi h1 Y k := fun k hk => xi_yi2 _ _ (Or.inr hk)
  generalize yi h1 Y 14 (nI (zun Z - 1)) = h2 at j2 f2 k2 ⊢
  have y2 := y0.l.iw j2
  refine xo_g y2.1 (xo_g y2.1 ?_)
  rw [f2]
  refine xo_b (FX9_fetches_o y2 (by omega)) (fun _ h3 q3 => ?_)
  obtain ⟨i3, c3⟩ := q3
  have i4 : iw (fun a => a = Y ∨ a = Y + 8) h1 h3 := j2.trans i3 (fun a q => Or.inl q) (fun a q => Or.inr q)
  have f3 : ∀ k, xi h3 Y k = xi h2 Y k := fun k => i3.i _ (by omega)
  refine xo_g (y2.iw i3).1 (xo_v ⟨by rw [f3]; exact f2, i0.trans i4 (fun _ q => q) (fun a q => by unfold rYa; omega), ?_, ?_⟩)
  · rw [f3, k2 _ (by decide)]; exact e0
  · refine YI_set y0 i4 (fun a q => by omega) (fun k k1 _ => (f3 k).trans (k2 k k1)) (z.2.2.1.2 _ (by omega)) (TR_cp (h := h1) (R := Y + 9) (o := 563 * (zun Z - 1)) ws (u0 _ (by omega)) (fun j hj => ?_)) ⟨(f3 14).trans f2, fun j hj => ?_⟩ (YK_iw (Z := Z) y0.2.2.2.1 i4 ⟨by omega, by omega⟩)
    · rw [Nat.zero_add, c3 j hj, j2.i _ (by omega)]
    · have hj : j < zun Z - 1 := hj
      exact (u0 j (by omega)).iw i4 (by omega)
theorem in2 (p : Int32) : FX9_in E p 0 1 h = xv (bI (inr p 2)) h := FX9_in_v p (n := 2) (by omega)
theorem R_save (y : YI h Y Z) (z : WZ Z) (hl : zld Z = true) {p : Nat} (hp : p < 2) : xo (FX9_save E Y (nI p) h) (fun r h2 => r = nI (cnt (lawS (zS Z) (zT Z)) 8) ∧ iw (rYa Y) h h2 ∧ xi h2 Y 0 = 0 ∧ YI h2 Y (zsv Z p)) := by
  have y0 := y.t 0
  have e0 : xi (yi h Y 0 0) Y 0 = 0 := xi_yi1 _ _ _ _
  have i0 : iw (rYa Y) h (yi h Y 0 0) := iw_yi _ _ _ _ (by unfold rYa; omega)
  have ein : FX9_in E (nI p) 0 1 (yi h Y 0 0) = xv 1 (yi h Y 0 0) := by rw [in2, inr_nI (by omega) hp]; rfl
  unfold FX9_save
  refine xo_g y.l.1 (xo_eb (FX9_notLoaded_v y hl) (xo_jn (xo_t rfl (xo_eb ein (xo_jn (xo_f (by decide) ?_))))))
  generalize yi h Y 0 0 = h1 at y0 e0 i0 ⊢
  have ws := y0.ws
  refine xo_g y0.l.1 (xo_eb (refuse_0g y0.l e0 2) (xo_t rfl (xo_g y0.l.1 ?_)))
  rw [show (8 : Int32) + nI p = nI (8 + p) by rw [li8, nI_a]]
  refine xo_b (FX9_keeps_o y0.l (by omega)) (fun _ h2 q2 => ?_)
  obtain ⟨i2, c2, d2⟩ := q2
  have y2 := y0.l.iw i2
  refine xo_g y2.1 (xo_n y2.r10 (xo_g (y2.g10 hp) (xo_lt ?_)))
  rw [xz_nI (by omega), show vp_nar .boolean 1 = 1 from rfl]
  have j3 : iw (fun a => a = Y + 10) h2 (yi h2 (Y + 10) p 1) := iw_yi _ _ _ _ rfl
  have f3 : xi (yi h2 (Y + 10) p 1) (Y + 10) p = 1 := xi_yi1 _ _ _ _
  have g3 : ∀ k, k ≠ p → xi (yi h2 (Y + 10) p 1) (Y + 10) k = xi h2 (Y + 10) k := fun k hk => xi_yi2 _ _ (Or.inr hk)
  generalize yi h2 (Y + 10) p 1 = h3 at j3 f3 g3 ⊢
  have i3 : iw (fun a => a = Y + 9 ∨ a = Y + 10) h1 h3 := i2.trans j3 (fun a q => Or.inl q) (fun a q => Or.inr q)
  have yz : YI h3 Y (zsv Z p) := by
    refine YI_set y0 i3 (fun a q => by omega) (fun k _ _ => i3.i _ (by omega)) y0.1.1.1.2 (y0.1.1.2.2.2.iw i3 (by omega)) ⟨(i3.i _ (by omega)).trans y0.2.2.1.1, fun j hj => ?_⟩ (fun j hj => ?_)
    · have hj : j < zun Z := hj
      have z8 := z.2.2.1.1
      refine TR_cp (h := h1) (R := Y + 9) (o := 563 * j) ws (y0.2.2.1.2 j hj) (fun k hk => ?_)
      rw [j3.i _ (by omega), d2 _ (by omega)]
    · show xi h3 (Y + 10) j = bI (if j = p then some (zT Z) else zk Z j).isSome ∧ ∀ T, (if j = p then some (zT Z) else zk Z j) = some T → TR h3 (Y + 9) (563 * (8 + j)) (zS Z) T
      by_cases c : j = p
      · rw [if_pos c]
        refine ⟨by rw [c, f3]; rfl, fun T e => ?_⟩
        cases e
        refine TR_cp (h := h1) (R := Y + 8) (o := 0) ws y0.1.1.2.2.2 (fun k hk => ?_)
        rw [j3.i _ (by omega), c, c2 _ hk, Nat.zero_add]
      · rw [if_neg c]
        have q := y0.2.2.2.1 j hj
        refine ⟨by rw [g3 _ c, i2.i _ (by omega)]; exact q.1, fun T e => ?_⟩
        refine TR_cp (h := h1) (R := Y + 9) (o := 563 * (8 + j)) ws (q.2 T e) (fun k hk => ?_)
        rw [j3.i _ (by omega), d2 _ (by omega)]
  refine xo_g yz.l.1 (xo_eb (FX9_lawfulNow_v yz.1.1) (xo_eb FX9_ones_v (xo_v ⟨rfl, i0.trans i3 (fun _ q => q) (fun a q => by unfold rYa; omega), ?_, yz⟩)))
  rw [i3.i _ (by omega)]; exact e0
theorem R_restore (y : YI h Y Z) (z : WZ Z) {p : Nat} (hp : p < 2) {T : ST} (hk : zk Z p = some T) : xo (FX9_restore E Y (nI p) h) (fun r h2 => r = nI (cnt (lawS (zS Z) T) 8) ∧ iw (rYa Y) h h2 ∧ xi h2 Y 0 = 0 ∧ YI h2 Y (zre Z T)) := by
  have y0 := y.t 0
  have e0 : xi (yi h Y 0 0) Y 0 = 0 := xi_yi1 _ _ _ _
  have i0 : iw (rYa Y) h (yi h Y 0 0) := iw_yi _ _ _ _ (by unfold rYa; omega)
  have ein : FX9_in E (nI p) 0 1 (yi h Y 0 0) = xv 1 (yi h Y 0 0) := by rw [in2, inr_nI (by omega) hp]; rfl
  unfold FX9_restore
  refine xo_g y.l.1 (xo_lt (xo_eb ein (xo_jn (xo_f (by decide) ?_))))
  generalize yi h Y 0 0 = h1 at y0 e0 i0 ⊢
  have ws := y0.ws
  have q := y0.2.2.2.1 p hp
  rw [hk] at q
  refine xo_g y0.l.1 (xo_eb (refuse_0g y0.l e0 1) (xo_jn (xo_t rfl (xo_g y0.l.1 (xo_n y0.l.r10 (xo_g (y0.l.g10 hp) (xo_jn ?_)))))))
  rw [xz_nI (by omega), q.1]
  refine xo_f (show ¬ bI true = (0 : Int32) by decide) (xo_g y0.l.1 (xo_eb (refuse_0g y0.l e0 2) (xo_t rfl (xo_g y0.l.1 ?_))))
  rw [show (8 : Int32) + nI p = nI (8 + p) by rw [li8, nI_a]]
  refine xo_b (FX9_fetches_o y0.l (by omega)) (fun _ h2 q2 => ?_)
  obtain ⟨i2, c2⟩ := q2
  have y2 := y0.l.iw i2
  refine xo_g y2.1 (xo_lt ?_)
  have j3 : iw (fun a => a = Y) h2 (yi h2 Y 14 0) := iw_yi _ _ _ _ rfl
  have f3 : xi (yi h2 Y 14 0) Y 14 = 0 := xi_yi1 _ _ _ _
  have k3 : ∀ k, k ≠ 14 → xi (yi h2 Y 14 0) Y k = xi h1 Y k := fun k hk => (xi_yi2 _ _ (Or.inr hk)).trans (i2.i _ (by omega))
  generalize yi h2 Y 14 0 = h3 at j3 f3 k3 ⊢
  have i3 : iw (fun a => a = Y ∨ a = Y + 8) h1 h3 := i2.trans j3 (fun a q => Or.inr q) (fun a q => Or.inl q)
  have yz : YI h3 Y (zre Z T) := by
    refine YI_set y0 i3 (fun a q => by omega) (fun k k1 _ => k3 k k1) (z.2.2.2.1 p T hp hk) (TR_cp (h := h1) (R := Y + 9) (o := 563 * (8 + p)) ws (q.2 T rfl) (fun j hj => ?_)) ⟨f3, fun j hj => absurd hj (Nat.not_lt_zero _)⟩ (YK_iw (Z := Z) y0.2.2.2.1 i3 ⟨by omega, by omega⟩)
    rw [j3.i _ (by omega), Nat.zero_add, c2 j hj]
  refine xo_g yz.l.1 (xo_eb (FX9_lawfulNow_v yz.1.1) (xo_eb FX9_ones_v (xo_v ⟨rfl, i0.trans i3 (fun _ q => q) (fun a q => by unfold rYa; omega), ?_, yz⟩)))
  rw [k3 _ (by decide)]; exact e0

theorem ag_setBoundary (j : JJ h X Y O Z) (p q r : Int32) : AGz X Y (cmT [0, 1]) h Z (FX8_setBoundary E X p q r) (FX9_setBoundary E Y p q r) := by
  have jj := j
  obtain ⟨z, -, -, ⟨w, s, f, x⟩, y⟩ := j
  have bn := x.ci.1.1.1
  have wt := x.ci.1.2
  cases hl : zld Z
  · refine AGz_x jj (AG_x 0 1 0 ?_ (fun h' y => ?_) (by decide))
    · unfold FX8_setBoundary
      rw [xg_t x.k, FX8_moduleAt_0 x hl]
      rfl
    · unfold FX9_setBoundary
      simp (disch := omega) only [↓xg, ↓reduceIte, ↓xjn_d, ↓xlt_d, eq_self, and_self, and_true, true_and, not_true, not_false_iff, ne_eq, true_or, or_true, or_false, false_or, nI_s, nI_leP, nI_eqP, y.l.1, ↓xb_eq (FX9_noUpper_0 y hl p q), i1_0, nI_0]
      try rfl
  · cases hp : inr p (snm (zS Z))
    · refine AGz_x jj (AG_x 1 2 0 ?_ (fun h' y => ?_) (by decide))
      · unfold FX8_setBoundary
        rw [xg_t x.k, FX8_moduleAt_1 x hl hp]
        rfl
      · unfold FX9_setBoundary
        simp (disch := omega) only [↓xg, ↓reduceIte, ↓xjn_d, ↓xlt_d, eq_self, and_self, and_true, true_and, not_true, not_false_iff, ne_eq, true_or, or_true, or_false, false_or, nI_s, nI_leP, nI_eqP, y.l.1, ↓xb_eq (FX9_noUpper_1 y hl hp q), i1_0]
        try rfl
    · obtain ⟨m, hk, rfl⟩ := inr_of (by omega) hp
      have C := x.ci.cm hk
      have bm := y.bm hk
      cases hq : inr q (nuS (zS Z) m)
      · refine AGz_x jj (AG_x 1 2 0 ?_ (fun h' y => ?_) (by decide))
        · unfold FX8_setBoundary
          simp (disch := omega) only [↓xg, ↓reduceIte, ↓xjn_d, ↓xlt_d, eq_self, and_self, and_true, true_and, not_true, not_false_iff, ne_eq, true_or, or_true, or_false, false_or, nI_s, nI_leP, nI_eqP, x.k, ↓xb_eq (FX8_moduleAt_v x hl hk), C.k, ↓xnn_e (C.u), C.uk, ↓xb_eq (has_f C.2.2.1.1 C.2.2.1.2.1 hq), ↓dT0b, ↓dT1b, ↓dF0b, ↓dF1b, i1_0]
        · unfold FX9_setBoundary
          simp (disch := omega) only [↓xg, ↓reduceIte, ↓xjn_d, ↓xlt_d, eq_self, and_self, and_true, true_and, not_true, not_false_iff, ne_eq, true_or, or_true, or_false, false_or, nI_s, nI_leP, nI_eqP, y.l.1, ↓xb_eq (FX9_noUpper_2 y hl hk hq), i1_0]
          try rfl
      · obtain ⟨a, ha, rfl⟩ := inr_of (by omega) hq
        cases hr : inr r (nlS2 (zS Z) m)
        · refine AGz_x jj (AG_x 1 2 0 ?_ (fun h' y => ?_) (by decide))
          · unfold FX8_setBoundary
            simp (disch := omega) only [↓xg, ↓reduceIte, ↓xjn_d, ↓xlt_d, eq_self, and_self, and_true, true_and, not_true, not_false_iff, ne_eq, true_or, or_true, or_false, false_or, nI_s, nI_leP, nI_eqP, x.k, ↓xb_eq (FX8_moduleAt_v x hl hk), C.k, ↓xnn_e (C.l), C.lk, ↓xnn_e (C.u), C.uk, ↓xb_eq (has_t C.2.2.1.1 C.2.2.1.2.1 ha), ↓xb_eq (has_f C.2.2.2.1.1 C.2.2.2.1.2.1 hr), ↓dT0b, ↓dT1b, ↓dF0b, ↓dF1b, i1_0]
          · have y0 := y.t 0
            have e2 := FX9_noLower_2 (E := E) y0 hl hk hr
            rw [yi_yi] at e2
            unfold FX9_setBoundary
            simp (disch := omega) only [↓xg, ↓reduceIte, ↓xjn_d, ↓xlt_d, eq_self, and_self, and_true, true_and, not_true, not_false_iff, ne_eq, true_or, or_true, or_false, false_or, nI_s, nI_leP, nI_eqP, y.l.1, ↓xb_eq (FX9_noUpper_v y hl hk ha), y0.l.1, ↓xb_eq (e2), i1_0]
            try rfl
        · obtain ⟨v, hv, rfl⟩ := inr_of (by omega) hr
          exact AGz_v _ (zjd Z m (Tbd (T1 (zT Z)) m a v)) (zsT_wz (zch_wz z hl wt) _) (C_setBoundary x z hl hk ha hv) (fun h' y => R_setBoundary y z hl hk ha hv)
theorem ag_setAct (j : JJ h X Y O Z) (p q r t : Int32) : AGz X Y (cmT [0, 1]) h Z (FX8_setAct E X p q r t) (FX9_setAct E Y p q r t) := by
  have jj := j
  obtain ⟨z, -, -, ⟨w, s, f, x⟩, y⟩ := j
  have bn := x.ci.1.1.1
  have wt := x.ci.1.2
  cases hl : zld Z
  · refine AGz_x jj (AG_x 0 1 0 ?_ (fun h' y => ?_) (by decide))
    · unfold FX8_setAct
      rw [xg_t x.k, FX8_moduleAt_0 x hl]
      rfl
    · unfold FX9_setAct
      simp (disch := omega) only [↓xg, ↓reduceIte, ↓xjn_d, ↓xlt_d, eq_self, and_self, and_true, true_and, not_true, not_false_iff, ne_eq, true_or, or_true, or_false, false_or, nI_s, nI_leP, nI_eqP, y.l.1, ↓xb_eq (FX9_noLower_0 y hl p q), i1_0, nI_0]
      try rfl
  · cases hp : inr p (snm (zS Z))
    · refine AGz_x jj (AG_x 1 2 0 ?_ (fun h' y => ?_) (by decide))
      · unfold FX8_setAct
        rw [xg_t x.k, FX8_moduleAt_1 x hl hp]
        rfl
      · unfold FX9_setAct
        simp (disch := omega) only [↓xg, ↓reduceIte, ↓xjn_d, ↓xlt_d, eq_self, and_self, and_true, true_and, not_true, not_false_iff, ne_eq, true_or, or_true, or_false, false_or, nI_s, nI_leP, nI_eqP, y.l.1, ↓xb_eq (FX9_noLower_1 y hl hp q), i1_0]
        try rfl
    · obtain ⟨m, hk, rfl⟩ := inr_of (by omega) hp
      have C := x.ci.cm hk
      have bm := y.bm hk
      cases hq : inr q (nlS2 (zS Z) m)
      · refine AGz_x jj (AG_x 1 2 0 ?_ (fun h' y => ?_) (by decide))
        · unfold FX8_setAct
          simp (disch := omega) only [↓xg, ↓reduceIte, ↓xjn_d, ↓xlt_d, eq_self, and_self, and_true, true_and, not_true, not_false_iff, ne_eq, true_or, or_true, or_false, false_or, nI_s, nI_leP, nI_eqP, x.k, ↓xb_eq (FX8_moduleAt_v x hl hk), C.k, ↓xnn_e (C.l), C.lk, ↓xb_eq (has_f C.2.2.2.1.1 C.2.2.2.1.2.1 hq), ↓dT0b, ↓dT1b, ↓dF0b, ↓dF1b, i1_0]
        · unfold FX9_setAct
          simp (disch := omega) only [↓xg, ↓reduceIte, ↓xjn_d, ↓xlt_d, eq_self, and_self, and_true, true_and, not_true, not_false_iff, ne_eq, true_or, or_true, or_false, false_or, nI_s, nI_leP, nI_eqP, y.l.1, ↓xb_eq (FX9_noLower_2 y hl hk hq), i1_0]
          try rfl
      · obtain ⟨g, hg, rfl⟩ := inr_of (by omega) hq
        cases hr : inr r (nuS (zS Z) m)
        · refine AGz_x jj (AG_x 1 2 0 ?_ (fun h' y => ?_) (by decide))
          · unfold FX8_setAct
            simp (disch := omega) only [↓xg, ↓reduceIte, ↓xjn_d, ↓xlt_d, eq_self, and_self, and_true, true_and, not_true, not_false_iff, ne_eq, true_or, or_true, or_false, false_or, nI_s, nI_leP, nI_eqP, x.k, ↓xb_eq (FX8_moduleAt_v x hl hk), C.k, ↓xnn_e (C.l), C.lk, ↓xnn_e (C.u), C.uk, ↓xb_eq (has_t C.2.2.2.1.1 C.2.2.2.1.2.1 hg), ↓xb_eq (has_f C.2.2.1.1 C.2.2.1.2.1 hr), ↓dT0b, ↓dT1b, ↓dF0b, ↓dF1b, i1_0]
          · have y0 := y.t 0
            have e2 := FX9_noUpper_2 (E := E) y0 hl hk hr
            rw [yi_yi] at e2
            unfold FX9_setAct
            simp (disch := omega) only [↓xg, ↓reduceIte, ↓xjn_d, ↓xlt_d, eq_self, and_self, and_true, true_and, not_true, not_false_iff, ne_eq, true_or, or_true, or_false, false_or, nI_s, nI_leP, nI_eqP, y.l.1, ↓xb_eq (FX9_noLower_v y hl hk hg), y0.l.1, ↓xb_eq (e2), i1_0]
            try rfl
        · obtain ⟨a, ha, rfl⟩ := inr_of (by omega) hr
          cases ht : inr t (nuS (zS Z) m)
          · refine AGz_x jj (AG_x 1 2 0 ?_ (fun h' y => ?_) (by decide))
            · unfold FX8_setAct
              simp (disch := omega) only [↓xg, ↓reduceIte, ↓xjn_d, ↓xlt_d, eq_self, and_self, and_true, true_and, not_true, not_false_iff, ne_eq, true_or, or_true, or_false, false_or, nI_s, nI_leP, nI_eqP, x.k, ↓xb_eq (FX8_moduleAt_v x hl hk), C.k, ↓xnn_e (C.l), C.lk, ↓xnn_e (C.u), C.uk, ↓xb_eq (has_t C.2.2.2.1.1 C.2.2.2.1.2.1 hg), ↓xb_eq (has_t C.2.2.1.1 C.2.2.1.2.1 ha), ↓xb_eq (has_f C.2.2.1.1 C.2.2.1.2.1 ht), ↓dT0b, ↓dT1b, ↓dF0b, ↓dF1b, i1_0]
            · have y0 := y.t 0
              have e2 := FX9_noUpper_v (E := E) y0 hl hk ha
              rw [yi_yi] at e2
              have e3 := FX9_noUpper_2 (E := E) y0 hl hk ht
              rw [yi_yi] at e3
              unfold FX9_setAct
              simp (disch := omega) only [↓xg, ↓reduceIte, ↓xjn_d, ↓xlt_d, eq_self, and_self, and_true, true_and, not_true, not_false_iff, ne_eq, true_or, or_true, or_false, false_or, nI_s, nI_leP, nI_eqP, y.l.1, ↓xb_eq (FX9_noLower_v y hl hk hg), y0.l.1, ↓xb_eq (e2), ↓xb_eq (e3), i1_0]
              try rfl
          · obtain ⟨v, hv, rfl⟩ := inr_of (by omega) ht
            exact AGz_v _ (zjd Z m (Tac (T1 (zT Z)) m g a v)) (zsT_wz (zch_wz z hl wt) _) (C_setAct x z hl hk hg ha hv) (fun h' y => R_setAct y z hl hk hg ha hv)
theorem ag_setTop (j : JJ h X Y O Z) (p q r : Int32) : AGz X Y (cmT [0, 1]) h Z (FX8_setTop E X p q r) (FX9_setTop E Y p q r) := by
  have jj := j
  obtain ⟨z, -, -, ⟨w, s, f, x⟩, y⟩ := j
  have bn := x.ci.1.1.1
  have wt := x.ci.1.2
  cases hl : zld Z
  · refine AGz_x jj (AG_x 0 1 0 ?_ (fun h' y => ?_) (by decide))
    · unfold FX8_setTop
      rw [xg_t x.k, FX8_arrowAt_0 x hl]
      rfl
    · unfold FX9_setTop
      simp (disch := omega) only [↓xg, ↓reduceIte, ↓xjn_d, ↓xlt_d, eq_self, and_self, and_true, true_and, not_true, not_false_iff, ne_eq, true_or, or_true, or_false, false_or, nI_s, nI_leP, nI_eqP, y.l.1, ↓xb_eq (FX9_noTop_0 y hl p q), i1_0, nI_0]
      try rfl
  · cases hp : inr p (sna (zS Z))
    · refine AGz_x jj (AG_x 1 2 0 ?_ (fun h' y => ?_) (by decide))
      · unfold FX8_setTop
        rw [xg_t x.k, FX8_arrowAt_1 x hl hp]
        rfl
      · unfold FX9_setTop
        simp (disch := omega) only [↓xg, ↓reduceIte, ↓xjn_d, ↓xlt_d, eq_self, and_self, and_true, true_and, not_true, not_false_iff, ne_eq, true_or, or_true, or_false, false_or, nI_s, nI_leP, nI_eqP, y.l.1, ↓xb_eq (FX9_noTop_1 y hl hp q), i1_0]
        try rfl
    · obtain ⟨a, hk, rfl⟩ := inr_of (by omega) hp
      have A := x.ci.ca hk
      have ba := y.ba hk
      have bm := y.bm ba.2.1
      have bo := y.bm ba.2.2
      cases hq : inr q (nuS (zS Z) (saf (zS Z) a))
      · refine AGz_x jj (AG_x 1 2 0 ?_ (fun h' y => ?_) (by decide))
        · unfold FX8_setTop
          simp (disch := omega) only [↓xg, ↓reduceIte, ↓xjn_d, ↓xlt_d, eq_self, and_self, and_true, true_and, not_true, not_false_iff, ne_eq, true_or, or_true, or_false, false_or, nI_s, nI_leP, nI_eqP, x.k, ↓xb_eq (FX8_arrowAt_v x hl hk), A.k, ↓xnn_e (A.f), A.cf.k, ↓xnn_e (A.cf.u), A.cf.uk, ↓xb_eq (has_f A.cf.2.2.1.1 A.cf.2.2.1.2.1 hq), ↓dT0b, ↓dT1b, ↓dF0b, ↓dF1b, i1_0]
        · unfold FX9_setTop
          simp (disch := omega) only [↓xg, ↓reduceIte, ↓xjn_d, ↓xlt_d, eq_self, and_self, and_true, true_and, not_true, not_false_iff, ne_eq, true_or, or_true, or_false, false_or, nI_s, nI_leP, nI_eqP, y.l.1, ↓xb_eq (FX9_noTop_2 y hl hk hq), i1_0]
          try rfl
      · obtain ⟨b, hb, rfl⟩ := inr_of (by omega) hq
        cases hr : inr r (nuS (zS Z) (sao (zS Z) a))
        · refine AGz_x jj (AG_x 1 2 0 ?_ (fun h' y => ?_) (by decide))
          · unfold FX8_setTop
            simp (disch := omega) only [↓xg, ↓reduceIte, ↓xjn_d, ↓xlt_d, eq_self, and_self, and_true, true_and, not_true, not_false_iff, ne_eq, true_or, or_true, or_false, false_or, nI_s, nI_leP, nI_eqP, x.k, ↓xb_eq (FX8_arrowAt_v x hl hk), A.k, ↓xnn_e (A.f), A.cf.k, ↓xnn_e (A.cf.u), A.cf.uk, ↓xb_eq (has_t A.cf.2.2.1.1 A.cf.2.2.1.2.1 hb), ↓xnn_e (A.o), A.co.k, ↓xnn_e (A.co.u), A.co.uk, ↓xb_eq (has_f A.co.2.2.1.1 A.co.2.2.1.2.1 hr), ↓dT0b, ↓dT1b, ↓dF0b, ↓dF1b, i1_0]
          · have y0 := y.t 0
            have A0 := y0.1.1.ya hk
            have eu : FX9_uppers E Y (nI (sao (zS Z) a)) (yi h' Y 0 0) = xv (nI (nuS (zS Z) (sao (zS Z) a))) (yi h' Y 0 0) := FX9_uppers_v (y0.1.1.ym ba.2.2)
            unfold FX9_setTop
            (try dsimp only); (rw [xg_t (y.l.1), xb_eq (FX9_noTop_v y hl hk hb), xjn_d, if_pos rfl, xg_t (y0.l.1), xnn_e (y0.l.r6), xg_t (y0.l.g6 ba.1), xg_t (y0.l.1), A0.r6, xb_eq (eu), xb_eq (in_f (E := E) (h := yi h' Y 0 0) (show nuS (zS Z) (sao (zS Z) a) < 2 ^ 31 by omega) hr), xjn_d, if_pos rfl])
            (try dsimp only); (rw [xg_t (y0.l.1), xb_eq (FX9_refuse_1 (E := E) y.l (show ¬ (2 : Int32) = 0 by decide))])
            rfl
        · obtain ⟨v, hv, rfl⟩ := inr_of (by omega) hr
          exact AGz_v _ (zsT (zch Z) (Ttp (T1 (zT Z)) a b v)) (zsT_wz (zch_wz z hl wt) _) (C_setTop x z hl hk hb hv) (fun h' y => R_setTop y z hl hk hb hv)
theorem ag_setBottom (j : JJ h X Y O Z) (p q r : Int32) : AGz X Y (cmT [0, 1]) h Z (FX8_setBottom E X p q r) (FX9_setBottom E Y p q r) := by
  have jj := j
  obtain ⟨z, -, -, ⟨w, s, f, x⟩, y⟩ := j
  have bn := x.ci.1.1.1
  have wt := x.ci.1.2
  cases hl : zld Z
  · refine AGz_x jj (AG_x 0 1 0 ?_ (fun h' y => ?_) (by decide))
    · unfold FX8_setBottom
      rw [xg_t x.k, FX8_arrowAt_0 x hl]
      rfl
    · unfold FX9_setBottom
      simp (disch := omega) only [↓xg, ↓reduceIte, ↓xjn_d, ↓xlt_d, eq_self, and_self, and_true, true_and, not_true, not_false_iff, ne_eq, true_or, or_true, or_false, false_or, nI_s, nI_leP, nI_eqP, y.l.1, ↓xb_eq (FX9_noBottom_0 y hl p q), i1_0, nI_0]
      try rfl
  · cases hp : inr p (sna (zS Z))
    · refine AGz_x jj (AG_x 1 2 0 ?_ (fun h' y => ?_) (by decide))
      · unfold FX8_setBottom
        rw [xg_t x.k, FX8_arrowAt_1 x hl hp]
        rfl
      · unfold FX9_setBottom
        simp (disch := omega) only [↓xg, ↓reduceIte, ↓xjn_d, ↓xlt_d, eq_self, and_self, and_true, true_and, not_true, not_false_iff, ne_eq, true_or, or_true, or_false, false_or, nI_s, nI_leP, nI_eqP, y.l.1, ↓xb_eq (FX9_noBottom_1 y hl hp q), i1_0]
        try rfl
    · obtain ⟨a, hk, rfl⟩ := inr_of (by omega) hp
      have A := x.ci.ca hk
      have ba := y.ba hk
      have bm := y.bm ba.2.1
      have bo := y.bm ba.2.2
      cases hq : inr q (nlS2 (zS Z) (saf (zS Z) a))
      · refine AGz_x jj (AG_x 1 2 0 ?_ (fun h' y => ?_) (by decide))
        · unfold FX8_setBottom
          simp (disch := omega) only [↓xg, ↓reduceIte, ↓xjn_d, ↓xlt_d, eq_self, and_self, and_true, true_and, not_true, not_false_iff, ne_eq, true_or, or_true, or_false, false_or, nI_s, nI_leP, nI_eqP, x.k, ↓xb_eq (FX8_arrowAt_v x hl hk), A.k, ↓xnn_e (A.f), A.cf.k, ↓xnn_e (A.cf.l), A.cf.lk, ↓xb_eq (has_f A.cf.2.2.2.1.1 A.cf.2.2.2.1.2.1 hq), ↓dT0b, ↓dT1b, ↓dF0b, ↓dF1b, i1_0]
        · unfold FX9_setBottom
          simp (disch := omega) only [↓xg, ↓reduceIte, ↓xjn_d, ↓xlt_d, eq_self, and_self, and_true, true_and, not_true, not_false_iff, ne_eq, true_or, or_true, or_false, false_or, nI_s, nI_leP, nI_eqP, y.l.1, ↓xb_eq (FX9_noBottom_2 y hl hk hq), i1_0]
          try rfl
      · obtain ⟨b, hb, rfl⟩ := inr_of (by omega) hq
        cases hr : inr r (nlS2 (zS Z) (sao (zS Z) a))
        · refine AGz_x jj (AG_x 1 2 0 ?_ (fun h' y => ?_) (by decide))
          · unfold FX8_setBottom
            simp (disch := omega) only [↓xg, ↓reduceIte, ↓xjn_d, ↓xlt_d, eq_self, and_self, and_true, true_and, not_true, not_false_iff, ne_eq, true_or, or_true, or_false, false_or, nI_s, nI_leP, nI_eqP, x.k, ↓xb_eq (FX8_arrowAt_v x hl hk), A.k, ↓xnn_e (A.f), A.cf.k, ↓xnn_e (A.cf.l), A.cf.lk, ↓xb_eq (has_t A.cf.2.2.2.1.1 A.cf.2.2.2.1.2.1 hb), ↓xnn_e (A.o), A.co.k, ↓xnn_e (A.co.l), A.co.lk, ↓xb_eq (has_f A.co.2.2.2.1.1 A.co.2.2.2.1.2.1 hr), ↓dT0b, ↓dT1b, ↓dF0b, ↓dF1b, i1_0]
          · have y0 := y.t 0
            have A0 := y0.1.1.ya hk
            have eu : FX9_lowers E Y (nI (sao (zS Z) a)) (yi h' Y 0 0) = xv (nI (nlS2 (zS Z) (sao (zS Z) a))) (yi h' Y 0 0) := FX9_lowers_v (y0.1.1.ym ba.2.2)
            unfold FX9_setBottom
            (try dsimp only); (rw [xg_t (y.l.1), xb_eq (FX9_noBottom_v y hl hk hb), xjn_d, if_pos rfl, xg_t (y0.l.1), xnn_e (y0.l.r6), xg_t (y0.l.g6 ba.1), xg_t (y0.l.1), A0.r6, xb_eq (eu), xb_eq (in_f (E := E) (h := yi h' Y 0 0) (show nlS2 (zS Z) (sao (zS Z) a) < 2 ^ 31 by omega) hr), xjn_d, if_pos rfl])
            (try dsimp only); (rw [xg_t (y0.l.1), xb_eq (FX9_refuse_1 (E := E) y.l (show ¬ (2 : Int32) = 0 by decide))])
            rfl
        · obtain ⟨v, hv, rfl⟩ := inr_of (by omega) hr
          exact AGz_v _ (zsT (zch Z) (Tbt (T1 (zT Z)) a b v)) (zsT_wz (zch_wz z hl wt) _) (C_setBottom x z hl hk hb hv) (fun h' y => R_setBottom y z hl hk hb hv)
theorem ag_rest (j : JJ h X Y O Z) (p : Int32) : AGz X Y (cmT [0, 1]) h Z (FX8_rest E X p) (FX9_rest E Y p) := by
  have jj := j
  obtain ⟨z, -, -, ⟨w, s, f, x⟩, y⟩ := j
  have bn := x.ci.1.1.1
  have wt := x.ci.1.2
  cases hl : zld Z
  · refine AGz_x jj (AG_x 0 1 0 ?_ (fun h' y => ?_) (by decide))
    · unfold FX8_rest
      rw [xg_t x.k, FX8_moduleAt_0 x hl]
      rfl
    · unfold FX9_rest
      simp (disch := omega) only [↓xg, ↓reduceIte, ↓xjn_d, ↓xlt_d, eq_self, and_self, and_true, true_and, not_true, not_false_iff, ne_eq, true_or, or_true, or_false, false_or, nI_s, nI_leP, nI_eqP, y.l.1, ↓xb_eq (FX9_noModule_0 y hl p), i1_0, nI_0]
      try rfl
  · cases hp : inr p (snm (zS Z))
    · refine AGz_x jj (AG_x 1 2 0 ?_ (fun h' y => ?_) (by decide))
      · unfold FX8_rest
        rw [xg_t x.k, FX8_moduleAt_1 x hl hp]
        rfl
      · unfold FX9_rest
        simp (disch := omega) only [↓xg, ↓reduceIte, ↓xjn_d, ↓xlt_d, eq_self, and_self, and_true, true_and, not_true, not_false_iff, ne_eq, true_or, or_true, or_false, false_or, nI_s, nI_leP, nI_eqP, y.l.1, ↓xb_eq (FX9_noModule_1 y hl hp), i1_0]
        try rfl
    · obtain ⟨m, hk, rfl⟩ := inr_of (by omega) hp
      refine AGz_v _ (zjd Z m (zac Z m (fun _ a => a)).1) (zsT_wz (zch_wz z hl wt) _) (C_rest x z hl hk) (fun h' y => ?_)
      have y0 := y.t 0
      unfold FX9_rest
      refine xo_g y.l.1 (xo_eb (FX9_noModule_v y hl hk) (xo_jn (xo_t rfl (xo_g y0.l.1 (xo_b (R_acts0 y0 z.2.2.1.1 hk) (fun v h2 q2 => xo_v ⟨q2.1, ?_, ?_, q2.2.2.2⟩))))))
      · exact (iw_yi (A := rYa Y) _ _ _ _ (by unfold rYa; omega)).trans q2.2.1 (fun _ q => q) (fun _ q => q)
      · rw [q2.2.2.1, xi_yi1]
theorem ag_conjugate (j : JJ h X Y O Z) (p : Int32) : AGz X Y (cmT [0, 1, 2]) h Z (FX8_conjugate E X p) (FX9_conjugate E Y p) := by
  have jj := j
  obtain ⟨z, -, -, ⟨w, s, f, x⟩, y⟩ := j
  have bn := x.ci.1.1.1
  have wt := x.ci.1.2
  cases hl : zld Z
  · refine AGz_x jj (AG_x 0 1 0 ?_ (fun h' y => ?_) (by decide))
    · unfold FX8_conjugate
      rw [xg_t x.k, FX8_moduleAt_0 x hl]
      rfl
    · unfold FX9_conjugate
      simp (disch := omega) only [↓xg, ↓reduceIte, ↓xjn_d, ↓xlt_d, eq_self, and_self, and_true, true_and, not_true, not_false_iff, ne_eq, true_or, or_true, or_false, false_or, nI_s, nI_leP, nI_eqP, y.l.1, ↓xb_eq (FX9_noModule_0 y hl p), i1_0, nI_0]
      try rfl
  · cases hp : inr p (snm (zS Z))
    · refine AGz_x jj (AG_x 1 2 0 ?_ (fun h' y => ?_) (by decide))
      · unfold FX8_conjugate
        rw [xg_t x.k, FX8_moduleAt_1 x hl hp]
        rfl
      · unfold FX9_conjugate
        simp (disch := omega) only [↓xg, ↓reduceIte, ↓xjn_d, ↓xlt_d, eq_self, and_self, and_true, true_and, not_true, not_false_iff, ne_eq, true_or, or_true, or_false, false_or, nI_s, nI_leP, nI_eqP, y.l.1, ↓xb_eq (FX9_noModule_1 y hl hp), i1_0]
        try rfl
    · obtain ⟨m, hk, rfl⟩ := inr_of (by omega) hp
      have C := x.ci.cm hk
      have bm := y.bm hk
      have n0 := x.ci.2.1.1.2.1
      by_cases hu : smu (zS Z) m = sml (zS Z) m
      · refine AGz_v _ (zjd Z m (zac Z m (fun g a => sgt (zS Z) (smu (zS Z) m) (sgt (zS Z) (smu (zS Z) m) g a) (sgv (zS Z) (smu (zS Z) m) g))).1) (zsT_wz (zch_wz z hl wt) _) (C_conjugate x z hl hk hu) (fun h' y => ?_)
        have y0 := y.t 0
        have e0 : xi (yi h' Y 0 0) Y 0 = 0 := xi_yi1 _ _ _ _
        have M := (y0.1.1.ym hk).2.1
        unfold FX9_conjugate
        refine xo_g y.l.1 (xo_eb (FX9_noModule_v y hl hk) (xo_jn (xo_jn (xo_t rfl (xo_g y0.l.1 (xo_n y0.l.r3 (xo_g (y0.l.g3 bm.1) (xo_g y0.l.1 (xo_n y0.l.r4 (xo_g (y0.l.g4 bm.1) (xo_jn (xo_t ?_ (xo_g y0.l.1 (xo_eb (refuse_0g y0.l e0 3) (xo_t rfl (xo_g y0.l.1 (xo_b (R_acts1 y0 z.2.2.1.1 hk (by unfold nuS nlS2; rw [hu])) (fun v h2 q2 => xo_v ⟨q2.1, ?_, ?_, q2.2.2.2⟩))))))))))))))))))
        · rw [xz_nI (by omega), M.1, M.2, hu]
        · exact (iw_yi (A := rYa Y) _ _ _ _ (by unfold rYa; omega)).trans q2.2.1 (fun _ q => q) (fun _ q => q)
        · rw [q2.2.2.1, xi_yi1]
      · refine AGz_x jj (AG_x 2 3 0 ?_ (fun h' y => ?_) (by decide))
        · have g6 := x.ci.1.1.1.1
          have mu := x.ci.1.1.2.2.1 m hk
          have hne : ¬ xi h (w + 14 + 3 * smu (zS Z) m) 0 = xi h (w + 14 + 3 * sml (zS Z) m) 0 := by
            rw [n0 _ (by omega), n0 _ (by omega), nI_eqP (by omega) (by omega)]
            exact hu
          unfold FX8_conjugate
          (try dsimp only); (rw [xg_t (x.k), xb_eq (FX8_moduleAt_v x hl hk), xg_t (C.k), xnn_e (C.u), xg_t (C.uk), xg_t (C.k), xnn_e (C.l), xg_t (C.lk), xjn_d, if_neg hne])
          rfl
        · have y0 := y.t 0
          have M := (y0.1.1.ym hk).2.1
          have hne : ¬ xi (yi h' Y 0 0) (Y + 3) (nI m).toNatClampNeg = xi (yi h' Y 0 0) (Y + 4) (nI m).toNatClampNeg := by
            rw [xz_nI (by omega), M.1, M.2, nI_eqP (by omega) (by omega)]
            exact hu
          unfold FX9_conjugate
          (try dsimp only); (rw [xg_t (y.l.1), xb_eq (FX9_noModule_v y hl hk), xjn_d, xjn_d, if_pos rfl, xg_t (y0.l.1), xnn_e (y0.l.r3), xg_t (y0.l.g3 bm.1), xg_t (y0.l.1), xnn_e (y0.l.r4), xg_t (y0.l.g4 bm.1), xjn_d, if_neg hne])
          (try dsimp only); (rw [xg_t (y0.l.1), xb_eq (FX9_refuse_1 (E := E) y.l (show ¬ (3 : Int32) = 0 by decide))])
          rfl
theorem ag_undo (j : JJ h X Y O Z) : AGz X Y (cmT [0]) h Z (FX8_undo E X) (FX9_undo E Y) := by
  have jj := j
  obtain ⟨z, -, -, ⟨w, s, f, x⟩, y⟩ := j
  by_cases hn : 0 < zun Z
  · exact AGz_v _ (zud Z) (zud_wz z) (C_undo x z hn) (fun h' y => R_undo y z hn)
  · have e : zun Z = 0 := by omega
    refine AGz_x jj (AG_x 0 1 0 ?_ (fun h' y => ?_) (by decide))
    · have u9 := x.2.2.2.2.1.1.2.2
      unfold FX8_undo
      rw [xg_t x.k, u9, e, if_neg (by decide)]
    · have y0 := y.t 0
      have e14 : xi (yi h' Y 0 0) Y 14 = nI (zun Z) := y0.2.2.1.1
      unfold FX9_undo
      (try dsimp only); (rw [xg_t (y.l.1), xlt_d, xg_t (y0.l.1), xjn_d, if_pos (show xi (yi h' Y 0 0) Y 14 = 0 by rw [e14, e]; rfl)])
      (try dsimp only); (rw [xg_t (y0.l.1), xb_eq (FX9_refuse_1 (E := E) y.l (show ¬ (1 : Int32) = 0 by decide))])
      rfl
theorem ag_save (j : JJ h X Y O Z) (p : Int32) : AGz X Y (cmT [0, 1]) h Z (FX8_save E X p) (FX9_save E Y p) := by
  have jj := j
  obtain ⟨z, -, -, ⟨w, s, f, x⟩, y⟩ := j
  cases hl : zld Z
  · refine AGz_x jj (AG_x 0 1 0 ?_ (fun h' y => ?_) (by decide))
    · unfold FX8_save
      rw [xg_t x.k, FX8_demandText_0 x hl]
      rfl
    · unfold FX9_save
      (try dsimp only); (rw [xg_t (y.l.1), xb_eq (FX9_notLoaded_0 y hl), xjn_d])
      rfl
  · cases hp : inr p 2
    · refine AGz_x jj (AG_x 1 2 0 ?_ (fun h' y => ?_) (by decide))
      · unfold FX8_save
        rw [xg_t x.k, FX8_demandText_v x hl, xb_v, xjn_d, xjn_d]
        rcases inr_no hp with c | ⟨c1, c2⟩
        · rw [if_pos c]; rfl
        · rw [if_neg c1, if_pos (show (2 : Int32) ≤ p from c2)]; rfl
      · have y0 := y.t 0
        unfold FX9_save
        rw [xg_t y.l.1, FX9_notLoaded_v y hl, xb_v, xjn_d, if_pos rfl, in2, hp, xb_v, xjn_d, if_pos (show bI false = (0 : Int32) from rfl)]
        (try dsimp only); (rw [xg_t (y0.l.1), xb_eq (FX9_refuse_1 (E := E) y.l (show ¬ (2 : Int32) = 0 by decide))])
        rfl
    · obtain ⟨k, hk, rfl⟩ := inr_of (by omega) hp
      exact AGz_v _ (zsv Z k) (zsv_wz z x.ci.1.2 k) (C_save x z hl hk) (fun h' y => R_save y z hl hk)
theorem ag_restore (j : JJ h X Y O Z) (p : Int32) : AGz X Y (cmT [1, 0]) h Z (FX8_restore E X p) (FX9_restore E Y p) := by
  have jj := j
  obtain ⟨z, -, -, ⟨w, s, f, x⟩, y⟩ := j
  cases hp : inr p 2
  · refine AGz_x jj (AG_x 1 1 0 ?_ (fun h' y => ?_) (by decide))
    · unfold FX8_restore
      rw [xjn_d, xjn_d]
      rcases inr_no hp with c | ⟨c1, c2⟩
      · rw [if_pos c]; rfl
      · rw [if_neg c1, if_pos (show (2 : Int32) ≤ p from c2)]; rfl
    · have y0 := y.t 0
      unfold FX9_restore
      rw [xg_t y.l.1, xlt_d, in2, hp, xb_v, xjn_d, if_pos (show bI false = (0 : Int32) from rfl)]
      (try dsimp only); (rw [xg_t (y0.l.1), xb_eq (FX9_refuse_1 (E := E) y.l (show ¬ (1 : Int32) = 0 by decide))])
      rfl
  · obtain ⟨k, hk, rfl⟩ := inr_of (by omega) hp
    cases hz : zk Z k with
    | none =>
      refine AGz_x jj (AG_x 0 2 0 (C_restore_0 x hk hz) (fun h' y => ?_) (by decide))
      have y0 := y.t 0
      have e0 : xi (yi h' Y 0 0) Y 0 = 0 := xi_yi1 _ _ _ _
      have q := (y0.2.2.2.1 k hk).1
      rw [hz] at q
      unfold FX9_restore
      rw [xg_t y.l.1, xlt_d, in2, inr_nI (by omega) hk, xb_v, xjn_d, if_neg (show ¬ bI true = (0 : Int32) by decide)]
      (try dsimp only); (rw [xg_t (y0.l.1), xb_eq (refuse_0g (E := E) y0.l e0 1), xjn_d, if_pos rfl, xg_t (y0.l.1), xnn_e (y0.l.r10), xg_t (y0.l.g10 hk), xjn_d])
      rw [if_pos (show xi (yi h' Y 0 0) (Y + 10) (nI k).toNatClampNeg = 0 by rw [xz_nI (by omega), q]; rfl)]
      (try dsimp only); (rw [xg_t (y0.l.1), xb_eq (FX9_refuse_1 (E := E) y.l (show ¬ (2 : Int32) = 0 by decide))])
      rfl
    | some T => exact AGz_v _ (zre Z T) (zre_wz z T) (C_restore x z hk hz) (fun h' y => R_restore y z hk hz)
end REH
