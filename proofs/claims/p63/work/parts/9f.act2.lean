/-! The law: turns, acts. -/
set_option linter.unusedVariables false
section ACT2
variable {E : XG} {h h' h0 : XH} {X c : Nat} {gb mb ab : Nat → Nat} {S : SD} {T Tc Tl T' : ST} {d s n k : Nat}
theorem Tjd_eq (T : ST) (a b : Nat) {v w : Int32} (hv : v = if a = 0 ∧ ¬ b = 0 then 1 else 0) (hw : w = if ¬ a = 0 ∧ b = 0 then 1 else 0) : Tcc (Tcc T (fun j => if j = 1 then tcc T 1 + v else tcc T j)) (fun j => if j = 2 then tcc T 2 + w else if j = 1 then tcc T 1 + v else tcc T j) = Tjd T a b := by
  show Tcc T _ = Tcc T _
  refine Tcc_e (fun j => ?_)
  by_cases j1 : j = 1
  · subst j1
    rw [if_neg (by decide), if_pos rfl, hv]
    by_cases q : a = 0 ∧ ¬ b = 0
    · rw [if_pos q, if_pos ⟨rfl, q⟩]
    · rw [if_neg q, if_neg (fun z => q z.2), if_neg (fun z => by omega), Int32.add_zero]
  · by_cases j2 : j = 2
    · subst j2
      rw [if_pos rfl, hw]
      by_cases q : ¬ a = 0 ∧ b = 0
      · rw [if_pos q, if_neg (fun z => absurd z.1 (by decide)), if_pos ⟨rfl, q⟩]
      · rw [if_neg q, if_neg (fun z => absurd z.1 (by decide)), if_neg (fun z => q z.2), Int32.add_zero]
    · rw [if_neg j2, if_neg j1, if_neg (fun z => j1 z.1), if_neg (fun z => j2 z.1)]
theorem inrM (m : Nat) : inr (-1) m = false := by unfold inr; exact decide_eq_false (fun z => absurd z.1 (by decide))
theorem turns_o (g : G2 h X c gb mb ab S T T d s n k) (hk : k + 4 < 1000000) (h0 : 0 < sna S) : xo (FL_turns E X c d h) (fun v h' => v = 1 ∧ ∃ T' k', G2 h' X c gb mb ab S T' T' d s n k' ∧ k' ≤ k + 4 ∧ CU 1 6 h h') := by
  have a8 := g.w.a8
  have o4 := g.o.2.2.2
  unfold FL_turns
  refine xo_g g.w.k (xo_g g.kd (xo_b (G2_next g (by omega) (hi := sna S - 1) (by rw [g.w.i7]; exact nI_sub (b := 1) h0) (by omega)) (fun v1 h2 z => ?_)))
  obtain ⟨⟨a, rfl, ha⟩, g2, c2⟩ := z
  have ha : a < sna S := by omega
  have ba := g.x.ba ha
  have bf := g.x.bm ba.2.1
  have bo := g.x.bm ba.2.2
  have oa := g.o.2.2.1 a ha
  have Mf := g.w.md ba.2.1
  have Mo := g.w.md ba.2.2
  have f1 : 0 < nuS S (saf S a) := Mf.w.1.1
  have f2 : 0 < nlS2 S (saf S a) := Mf.w.1.2.2.1
  have o1 : 0 < nuS S (sao S a) := Mo.w.1.1
  have o2 : 0 < nlS2 S (sao S a) := Mo.w.1.2.2.1
  refine xo_g g2.w.k (xo_n g2.w.r3 ?_)
  rw [larow g2.w ha]
  refine xo_g g2.w.k (xo_n g2.w.r4 (xo_g ⟨g2.w.k6.1, by rw [g2.w.k6.2]; decide⟩ (xo_g ⟨g2.w.k6.1, by rw [g2.w.k6.2]; decide⟩ ?_)))
  rw [show (0 : Int32).toNatClampNeg = 0 from rfl]
  refine xo_lt ?_
  have g6 := G2_w g2 (by omega) (by omega) (T1_w g2.w g2.o)
  have c6 := c2.trans (CU.yi (c + 6) 0 (xi h2 (c + 6) 0 + 1))
  generalize yi h2 (c + 6) 0 (xi h2 (c + 6) 0 + 1) = h6 at *
  refine xo_g g6.kd (xo_b (G2_next g6 (by omega) (hi := 1) rfl (by omega)) (fun v7 h8 z => ?_))
  obtain ⟨⟨v7, rfl, hv7⟩, g8, c8⟩ := z
  have c8 := c6.trans c8
  have A8 := g8.w.ar ha
  by_cases e7 : v7 = 0
  · refine xo_t (by rw [e7]; rfl) (xo_g A8.1.1 (xo_n A8.1.2.2.1 (xo_g A8.2.1.1.1 (xo_g g8.kd (xo_b (G2_next g8 (by omega) (hi := nuS S (saf S a) - 1) (by rw [A8.2.1.1.2]; exact nI_sub (b := 1) f1) (by omega)) (fun v29 h30 z => ?_))))))
    obtain ⟨⟨x, rfl, hx⟩, g30, c30⟩ := z
    have hx : x < nuS S (saf S a) := by omega
    have A30 := g30.w.ar ha
    refine xo_g g30.w.k (xo_n g30.w.r2 (xo_g A30.1.1 ?_))
    rw [A30.1.2.1.2, lmrow g30.w ba.2.2]
    have M30 := g30.w.md ba.2.2
    refine xo_g M30.k (xo_n M30.r5 (xo_g M30.kb (xo_g g30.kd (xo_b (G2_next g30 (by omega) (hi := nuS S (sao S a) - 1) (by rw [M30.nb]; exact nI_sub (b := 1) o1) (by omega)) (fun v34 h35 z => ?_)))))
    obtain ⟨⟨v, rfl, hv⟩, g35, c35⟩ := z
    have hv : v < nuS S (sao S a) := by omega
    have A35 := g35.w.ar ha
    obtain ⟨r1, r2⟩ := A35.rt hx (by omega)
    refine xo_g A35.1.1 (xo_n A35.1.2.2.1 (xo_g r1 (xo_lt (xo_g A35.1.1 (xo_n A35.1.2.2.1 (xo_g r1 (xo_wat (by omega) (fun h39 e39 => ?_))))))))
    subst e39
    rw [r2]
    have g39 := G2_w g35 (by omega) (by omega) (lW_tp g35.w g35.o ha hx hv)
    refine xo_g g39.x.k (xo_b (qc_setTop g39.x ha hx hv) (fun v40 h41 z => ?_))
    obtain ⟨rfl, i41, x41⟩ := z
    have g41 := G2_c g39 i41 x41
    have A41 := g41.w.ar ha
    refine xo_jn (xo_jn (xo_t rfl (xo_g A41.1.1 (xo_n A41.1.2.2.1 (xo_g A41.2.1.1.1 ?_)))))
    rw [A41.2.1.1.2, ofNat_nI]
    refine xo_b (G2_thr g41 lc_28 (q8_setTopH g41.x ha (inrF _ (by omega)) 0) (by omega)) (fun v46 h47 z => ?_)
    obtain ⟨rfl, g47, c47⟩ := z
    exact xo_t rfl (xo_g (Or.inr rfl) (xo_v ⟨rfl, _, _, g47, by omega, ((((c8.trans c30).trans c35).trans (CU.yi _ _ _)).trans ((CU_iw i41).trans c47)).more (by omega) (by omega)⟩))
  · refine xo_f (by rw [nI_eq0 (by omega)]; exact e7) (xo_g A8.1.1 (xo_n A8.1.2.2.2 (xo_g A8.2.2.1.1 (xo_g g8.kd (xo_b (G2_next g8 (by omega) (hi := nlS2 S (saf S a) - 1) (by rw [A8.2.2.1.2]; exact nI_sub (b := 1) f2) (by omega)) (fun v29 h30 z => ?_))))))
    obtain ⟨⟨x, rfl, hx⟩, g30, c30⟩ := z
    have hx : x < nlS2 S (saf S a) := by omega
    have A30 := g30.w.ar ha
    refine xo_g g30.w.k (xo_n g30.w.r2 (xo_g A30.1.1 ?_))
    rw [A30.1.2.1.2, lmrow g30.w ba.2.2]
    have M30 := g30.w.md ba.2.2
    refine xo_g M30.k (xo_n M30.r4 (xo_g M30.a.1.1.1 (xo_g g30.kd (xo_b (G2_next g30 (by omega) (hi := nlS2 S (sao S a) - 1) (by rw [M30.a.1.1.2]; exact nI_sub (b := 1) o2) (by omega)) (fun v34 h35 z => ?_)))))
    obtain ⟨⟨v, rfl, hv⟩, g35, c35⟩ := z
    have hv : v < nlS2 S (sao S a) := by omega
    have A35 := g35.w.ar ha
    obtain ⟨r1, r2⟩ := A35.rb hx (by omega)
    refine xo_g A35.1.1 (xo_n A35.1.2.2.2 (xo_g r1 (xo_lt (xo_g A35.1.1 (xo_n A35.1.2.2.2 (xo_g r1 (xo_wat (by omega) (fun h39 e39 => ?_))))))))
    subst e39
    rw [r2]
    have g39 := G2_w g35 (by omega) (by omega) (lW_bt g35.w g35.o ha hx hv)
    refine xo_g g39.x.k (xo_b (qc_setBottom g39.x ha hx hv) (fun v40 h41 z => ?_))
    obtain ⟨rfl, i41, x41⟩ := z
    have g41 := G2_c g39 i41 x41
    refine xo_jn (xo_jn (xo_t rfl (xo_b (G2_thr g41 lc_29 (q8_setBottomT g41.x ha (b := 0) f2 (inrM _)) (by omega)) (fun v46 h47 z => ?_))))
    obtain ⟨rfl, g47, c47⟩ := z
    exact xo_t rfl (xo_g (Or.inr rfl) (xo_v ⟨rfl, _, _, g47, by omega, ((((c8.trans c30).trans c35).trans (CU.yi _ _ _)).trans ((CU_iw i41).trans c47)).more (by omega) (by omega)⟩))
theorem act_o (g : G2 h X c gb mb ab S T T d s n k) (hk : k + 10 < 1000000) (h0 : 0 < snm S) : xo (FL_act E X c d h) (fun v h' => v = 1 ∧ ∃ T' k', G2 h' X c gb mb ab S T' T' d s n k' ∧ k' ≤ k + 10 ∧ CU 1 6 h h') := by
  have m6 := g.w.m6
  have o4 := g.o.2.2.2
  unfold FL_act
  refine xo_g g.kd (xo_b (G2_next g (by omega) (hi := 9) rfl (by omega)) (fun v1 h2 z => ?_))
  obtain ⟨⟨y, rfl, hy⟩, g2, c2⟩ := z
  refine xo_g g2.w.k (xo_g g2.kd (xo_b (G2_next g2 (by omega) (hi := snm S - 1) (by rw [g2.w.i6]; exact nI_sub (b := 1) h0) (by omega)) (fun v3 h4 z => ?_)))
  obtain ⟨⟨m, rfl, hm⟩, g4, c4⟩ := z
  have hm : m < snm S := by omega
  have c4 := c2.trans c4
  refine xo_g g4.w.k (xo_n g4.w.r2 ?_)
  rw [lmrow g4.w hm]
  have M4 := g4.w.md hm
  by_cases y5 : y ≤ 5
  · refine xo_t (by rw [li5, nI_leP (by omega) (by omega)]; exact y5) ?_
    refine xo_jk (R := fun h7 => h7 = h4 ∧ (y = 1 → smu S m = sml S m)) (fun h7 z => ?_) (fun j K => ?_)
    · obtain ⟨rfl, hw⟩ := z
      have w9 := whS_9 S T m
      refine xo_g M4.k (xo_eb (show FX11_why E (mb m) h7 = xv (nI (whS S T m)) h7 from lwhy_v M4) ?_)
      refine xo_jk1 (R := fun v h11 => v = (if whS S T m = 0 then (1 : Int32) else 0) ∧ h11 = h7) (fun v10 h11 z => ?_) (fun j K => ?_)
      · obtain ⟨rfl, rfl⟩ := z
        refine xo_g g4.w.k (xo_n g4.w.r4 (xo_g ⟨g4.w.k6.1, by rw [g4.w.k6.2]; decide⟩ (xo_g ⟨g4.w.k6.1, by rw [g4.w.k6.2]; decide⟩ ?_)))
        rw [show (0 : Int32).toNatClampNeg = 0 from rfl]
        refine xo_lt ?_
        have g13 := G2_w g4 (by omega) (by omega) (T1_w g4.w g4.o)
        have c13 := c4.trans (CU.yi (c + 6) 0 (xi h11 (c + 6) 0 + 1))
        generalize yi h11 (c + 6) 0 (xi h11 (c + 6) 0 + 1) = h13 at *
        refine xo_b (moves_o g13 (by omega) hm (show y < 6 by omega) hw) (fun v14 h15 z => ?_)
        obtain ⟨rfl, T', k', g15, hk', c15⟩ := z
        have c15 := c13.trans c15
        have M15 := g15.w.md hm
        have w9' := whS_9 S T' m
        refine xo_g M15.k (xo_eb (show FX11_why E (mb m) h15 = xv (nI (whS S T' m)) h15 from lwhy_v M15) ?_)
        refine xo_jk1 (R := fun v h19 => v = (if whS S T' m = 0 then (1 : Int32) else 0) ∧ h19 = h15) (fun v18 h19 z => ?_) (fun j K => ?_)
        · obtain ⟨rfl, rfl⟩ := z
          refine xo_g g15.w.k (xo_n g15.w.r4 (xo_g ⟨g15.w.k6.1, by rw [g15.w.k6.2]; decide⟩ ?_))
          refine xo_jk1 (R := fun v h22 => v = (if whS S T m = 0 ∧ ¬ whS S T' m = 0 then (1 : Int32) else 0) ∧ h22 = h19) (fun v21 h22 z => ?_) (fun j K => ?_)
          · obtain ⟨ev, rfl⟩ := z
            refine xo_g ⟨g15.w.k6.1, by rw [g15.w.k6.2]; decide⟩ ?_
            rw [show (1 : Int32).toNatClampNeg = 1 from rfl]
            refine xo_lt ?_
            have w23 := lW_cc g15.w g15.o (k := 1) (by omega) (tcc T' 1 + v21)
            rw [g15.w.ac (k := 1) (by omega)]
            have g23 := G2_w g15 (by omega) (by omega) w23
            have c23 := c15.trans (CU.yi (c + 6) 1 (tcc T' 1 + v21))
            generalize yi h22 (c + 6) 1 (tcc T' 1 + v21) = h23 at *
            refine xo_g g23.w.k (xo_n g23.w.r4 (xo_g ⟨g23.w.k6.1, by rw [g23.w.k6.2]; decide⟩ ?_))
            refine xo_jk1 (R := fun v h26 => v = (if ¬ whS S T m = 0 ∧ whS S T' m = 0 then (1 : Int32) else 0) ∧ h26 = h23) (fun v25 h26 z => ?_) (fun j K => ?_)
            · obtain ⟨ew, rfl⟩ := z
              refine xo_g ⟨g23.w.k6.1, by rw [g23.w.k6.2]; decide⟩ ?_
              rw [show (2 : Int32).toNatClampNeg = 2 from rfl]
              refine xo_lt ?_
              have w27 := lW_cc g23.w g23.o (k := 2) (by omega) (tcc T' 2 + v25)
              have e27 : Tcc (Tcc T' (fun j => if j = 1 then tcc T' 1 + v21 else tcc T' j)) (fun j => if j = 2 then tcc T' 2 + v25 else if j = 1 then tcc T' 1 + v21 else tcc T' j) = Tjd T' (whS S T m) (whS S T' m) := Tjd_eq T' _ _ ev ew
              have w27' : lW (yi h26 (c + 6) 2 (tcc T' 2 + v25)) c gb mb ab S (Tjd T' (whS S T m) (whS S T' m)) := by rw [← e27]; exact w27
              rw [show xi h26 (c + 6) 2 = tcc T' 2 from g23.w.ac (k := 2) (by omega)]
              exact xo_g (Or.inr rfl) (xo_v ⟨rfl, _, _, G2_w g23 (by omega) (by omega) w27', by omega, (c23.trans (CU.yi _ _ _)).more (by omega) (by omega)⟩)
            · refine xo_jn ?_
              by_cases q1 : whS S T m = 0
              · rw [if_pos q1]
                refine xo_f (by decide) (K _ _ ⟨(if_neg (fun z => z.1 q1)).symm, rfl⟩)
              · rw [if_neg q1]
                refine xo_t rfl ?_
                by_cases q2 : whS S T' m = 0
                · rw [if_pos q2]
                  exact xo_f (by decide) (K _ _ ⟨(if_pos ⟨q1, q2⟩).symm, rfl⟩)
                · rw [if_neg q2]
                  exact xo_t rfl (K _ _ ⟨(if_neg (fun z => q2 z.2)).symm, rfl⟩)
          · refine xo_jn ?_
            by_cases q1 : whS S T m = 0
            · rw [if_pos q1]
              refine xo_f (by decide) ?_
              by_cases q2 : whS S T' m = 0
              · rw [if_pos q2]
                exact xo_f (by decide) (K _ _ ⟨(if_neg (fun z => z.2 q2)).symm, rfl⟩)
              · rw [if_neg q2]
                exact xo_t rfl (K _ _ ⟨(if_pos ⟨q1, q2⟩).symm, rfl⟩)
            · rw [if_neg q1]
              exact xo_t rfl (K _ _ ⟨(if_neg (fun z => q1 z.1)).symm, rfl⟩)
        · by_cases q : whS S T' m = 0
          · exact xo_t (by rw [q]; rfl) (K _ _ ⟨(if_pos q).symm, rfl⟩)
          · exact xo_f (by rw [nI_eq0 (by omega)]; exact q) (K _ _ ⟨(if_neg q).symm, rfl⟩)
      · by_cases q : whS S T m = 0
        · exact xo_t (by rw [q]; rfl) (K _ _ ⟨(if_pos q).symm, rfl⟩)
        · exact xo_f (by rw [nI_eq0 (by omega)]; exact q) (K _ _ ⟨(if_neg q).symm, rfl⟩)
    · have bm := g4.x.bm hm
      by_cases y1 : y = 1
      · refine xo_t (by rw [y1]; rfl) (xo_g M4.k (xo_g M4.k ?_))
        rw [g4.w.hi hm, g4.w.lo hm]
        by_cases hu : smu S m = sml S m
        · exact xo_t (by rw [hu]) (K _ ⟨rfl, fun _ => hu⟩)
        · refine xo_f (fun z => hu ((nI_eq (by omega) (by omega)).mp z)) (xo_b (G2_thr g4 lc_27 (q8_conjugate2 g4.x hm hu) (by omega)) (fun v30 h31 z => ?_))
          obtain ⟨rfl, g31, c31⟩ := z
          exact xo_jn (xo_t rfl (xo_g (Or.inr rfl) (xo_v ⟨rfl, _, _, g31, by omega, (c4.trans c31).more (by omega) (by omega)⟩)))
      · exact xo_f (fun z => y1 ((nI_eq (by omega) (by omega)).mp z)) (K _ ⟨rfl, fun z => absurd z y1⟩)
  · refine xo_f (by rw [li5, nI_leP (by omega) (by omega)]; exact y5) (xo_g g4.w.k (xo_jn ?_))
    rw [g4.w.i7]
    have a8 := g4.w.a8
    by_cases a0 : sna S = 0
    · refine xo_t (by rw [a0]; exact Int32.le_refl _) (xo_b (G2_thr g4 lc_28 (q8_setTopA g4.x (p := 0) (by rw [a0]; decide) 0 0) (by omega)) (fun v36 h37 z => ?_))
      obtain ⟨rfl, g37, c37⟩ := z
      exact xo_t rfl (xo_g (Or.inr rfl) (xo_v ⟨rfl, _, _, g37, by omega, (c4.trans c37).more (by omega) (by omega)⟩))
    · refine xo_f (by rw [li0, nI_leP (by omega) (by omega)]; omega) (xo_b (turns_o g4 (by omega) (by omega)) (fun v38 h39 z => ?_))
      obtain ⟨rfl, T', k', g39, hk', c39⟩ := z
      exact xo_g (Or.inr rfl) (xo_v ⟨rfl, T', k', g39, by omega, (c4.trans c39).more (by omega) (by omega)⟩)
end ACT2
