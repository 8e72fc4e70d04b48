/-! The reference reads arrows, a line, a text. -/
set_option linter.unusedVariables false
section RLI
variable {E : XG} {h h' h1 h2 : XH} {Y i g0 : Nat} {B : BF} {t : TK} {er : ER} {S : SD} {T : ST} {D : Nat → Int32} {A : Nat → Nat → Prop}
theorem arrowLine_o (H : RSy h Y B none t (fun h => RQy h Y S T D)) (ws : WS S) (nm : WNm S) : xo (FX9_arrowLine E Y h) (fun _ h' => LR h Y B (eRl B S t) (nRl B S T D t) h') := by
  have c0 := H.2.2.2
  have m6 := ws.1.2.1
  have g6 := ws.1.1
  have a8 := ws.1.2.2
  have Qo : StA (oY Y) (fun h => RQy h Y S T D) := StA_o (RQ_c ws)
  unfold FX9_arrowLine
  refine xo_g H.y.1 (xo_lte c0.1.2.2 (xo_jp (fun v h1 => h1 = h ∧ v = bI (decide (sna S = 8))) (fun v h1 z => ?_) (fun j jh => ?_)))
  · obtain ⟨rfl, rfl⟩ := z
    refine xo_g H.y.1 (xo_b (failsIf_s (code := 4) (c := decide (sna S = 8)) H Qo (by omega) (by omega) (fun _ => rfl)) (fun _ h2 q => ?_))
    obtain ⟨w2, H2⟩ := q
    rw [eo_n] at H2
    refine xo_g H2.y.1 (xo_b (goesOn_s H2 Qo) (fun _ h3 q => ?_))
    obtain ⟨w3, H3⟩ := q
    refine xo_g H3.y.1 (xo_b (newName_s (s9 := 2) H3 (RQ_n ws (by omega)) ws nm (by omega) (fun h' q => q.2.2.2.2.2 2 (by omega)) (fun z => ?_)) (fun _ h4 q => ?_))
    · have := of_decide_eq_false (ck_none z)
      show sna S < 8
      omega
    obtain ⟨w4, H4⟩ := q
    have w14 : fW (yAll Y) noR h1 h4 := (fw_ya (S := S) (fw_oc (w2.trans w3))).trans (fw_yn (by omega) w4)
    have e4 : xi h4 Y 36 = nI (snm S) := (w4.i (fun q => by unfold nY oY at q; omega)).trans (((w2.trans w3).i (fun q => by unfold oY at q; omega)).trans c0.1.2.1)
    have f4 : xi h4 Y 37 = nI (sna S) := (w4.i (fun q => by unfold nY oY at q; omega)).trans (((w2.trans w3).i (fun q => by unfold oY at q; omega)).trans c0.1.2.2)
    have Q1o : StA (oY Y) (fun h => RQy h Y S T D ∧ RNn h Y S 2 (wdT B (nx B t))) := StA_o (Q1_c ws)
    refine xo_g H4.y.1 (xo_g H4.y.1 ?_)
    rw [e4]
    refine xo_b (takesName_s (s := 1) H4 Q1o ws nm (by omega) (fun h' q => q.1.2.2.2.2.2 1 (by omega))) (fun v7 h5 q => ?_)
    obtain ⟨w5, H5, ev⟩ := q
    have e5 : xi h5 Y 36 = nI (snm S) := (w5.i (fun q => by unfold oY at q; omega)).trans e4
    refine xo_g H5.y.1 (xo_g H5.y.1 ?_)
    rw [e5]
    refine xo_b (takesName_s (s := 1) H5 Q1o ws nm (by omega) (fun h' q => q.1.2.2.2.2.2 1 (by omega))) (fun v9 h6 q => ?_)
    obtain ⟨w6, H6, ev2⟩ := q
    have w16 : fW (yAll Y) noR h1 h6 := w14.trans (fw_ya (S := S) (fw_oc (w5.trans w6)))
    have f6 : xi h6 Y 37 = nI (sna S) := ((w5.trans w6).i (fun q => by unfold oY at q; omega)).trans f4
    have H6 : RSy h6 Y B (eo (eo (eo (ck (decide (sna S = 8)) 4 t) (eNm B S 2 (nx B t))) (eKn B S 1 (nxn B t 2))) (eKn B S 1 (nxn B t 3))) (nxn B t 4) (fun h => RQy h Y S T D ∧ RNn h Y S 2 (wdT B (nx B t))) := H6
    have ev : v7 = nI (vEr (eo (eo (ck (decide (sna S = 8)) 4 t) (eNm B S 2 (nx B t))) (eKn B S 1 (nxn B t 2))) 0 (fRl B S t)) := ev
    have ev2 : v9 = nI (vEr (eo (eo (eo (ck (decide (sna S = 8)) 4 t) (eNm B S 2 (nx B t))) (eKn B S 1 (nxn B t 2))) (eKn B S 1 (nxn B t 3))) 0 (oRl B S t)) := ev2
    have eG : eRl B S t = eo (eo (eo (eo (ck (decide (sna S = 8)) 4 t) (eNm B S 2 (nx B t))) (eKn B S 1 (nxn B t 2))) (eKn B S 1 (nxn B t 3))) (eo (eEl B (nuS S (oRl B S t) - 1) (nxn B t 4) (nuS S (fRl B S t))) (eEl B (nlS2 S (oRl B S t) - 1) (nxn B (nxn B t 4) (nuS S (fRl B S t))) (nlS2 S (fRl B S t)))) := by
      unfold eRl
      rw [eo_as, eo_as, eo_as]
    cases hE : eo (eo (eo (ck (decide (sna S = 8)) 4 t) (eNm B S 2 (nx B t))) (eKn B S 1 (nxn B t 2))) (eKn B S 1 (nxn B t 3)) with
    | some e =>
      rw [hE] at H6 eG
      rw [eG]
      have Q0 : StA (eY Y 0 0) (fun h => RQy h Y S T D ∧ RNn h Y S 2 (wdT B (nx B t))) := fun a b w q => Q1o a b (w.wide (fun a j q => by unfold eY at q; unfold oY at *; omega) (fun a j q => q)) q
      refine el_loop (E := E) (n := 0) (hi := 1) (base := 0) H6 Q0 (by omega) (by omega) (fun i h ag j TP _ z => by cases z) (fun h7 w7 H7 => ?_)
      have H7 : RSy h7 Y B (some e) (nxn B t 4) (fun _ => True) := RSy_s H7
      refine el_loop (E := E) (n := 0) (hi := 1) (base := 0) H7 (fun _ _ _ _ => trivial) (by omega) (by omega) (fun i h ag j TP _ z => by cases z) (fun h8 w8 H8 => ?_)
      have H8 : RSy h8 Y B (some e) (nxn B t 4) (fun _ => True) := RSy_s H8
      exact xo_g H8.y.1 (xo_jn (xo_f (fun z => by cases (H8.wr).mp z) (xo_v ⟨(w16.trans (fw_ey w7)).trans (fw_ey w8), RSy_s H8⟩)))
    | none =>
      rw [hE] at H6 eG ev2
      obtain ⟨z1, z2⟩ := eo_none hE
      obtain ⟨z3, z4⟩ := eo_none z1
      obtain ⟨z5, z6⟩ := eo_none z3
      rw [z1] at ev
      rw [eo_n] at eG
      have hg : sna S < 8 := by
        have := of_decide_eq_false (ck_none z5)
        omega
      have a0 : fRl B S t < snm S := (eKn_0 z4).2
      have b0 : oRl B S t < snm S := (eKn_0 z2).2
      rw [eG]
      unfold nRl
      generalize fRl B S t = u at *
      generalize oRl B S t = l at *
      have ev : v7 = nI u := ev
      have ev2 : v9 = nI l := ev2
      subst ev
      subst ev2
      obtain ⟨uu0, uv0⟩ := ws.2.2.1 u a0
      obtain ⟨lu0, lv0⟩ := ws.2.2.1 l b0
      have guu := ws.2.1 _ uu0
      have guv := ws.2.1 _ uv0
      have glu := ws.2.1 _ lu0
      have glv := ws.2.1 _ lv0
      have guu8 : nuS S u ≤ 8 := guu.1.2
      have guv8 : nlS2 S u ≤ 8 := guv.1.2
      have glu8 : nuS S l ≤ 8 := glu.1.2
      have glv8 : nlS2 S l ≤ 8 := glv.1.2
      have glu0 : 0 < nuS S l := glu.1.1
      have glv0 : 0 < nlS2 S l := glv.1.1
      have szl : ∀ {h9 m}, m < snm S → RQy h9 Y S T D → xi h9 (Y + 13) (xi h9 (Y + 16) (nI m).toNatClampNeg).toNatClampNeg = nI (nlS2 S m) ∧ (xi h9 (Y + 16) (nI m).toNatClampNeg) = nI (sml S m) ∧ sml S m < 6 := fun {h9 m} hm q => by
        have := ws.2.2.1 m hm
        rw [xz_nI (n := m) (by omega), (q.2.2.1 m hm).2.1, xz_nI (by omega)]
        exact ⟨(q.2.1 _ this.2).1, rfl, by omega⟩
      have szu : ∀ {h9 m}, m < snm S → RQy h9 Y S T D → xi h9 (Y + 13) (xi h9 (Y + 15) (nI m).toNatClampNeg).toNatClampNeg = nI (nuS S m) ∧ (xi h9 (Y + 15) (nI m).toNatClampNeg) = nI (smu S m) ∧ smu S m < 6 := fun {h9 m} hm q => by
        have := ws.2.2.1 m hm
        rw [xz_nI (n := m) (by omega), (q.2.2.1 m hm).1, xz_nI (by omega)]
        exact ⟨(q.2.1 _ this.1).1, rfl, by omega⟩
      refine el_loop (E := E) (er := none) (t := nxn B t 4) (n := nuS S u) (hi := nuS S l - 1) (base := 432 + 8 * sna S) H6 (fun a b w q => Q1_c ws a b (ey_c2 hg guu8 (Or.inl rfl) w) q) guu8 (by omega) (fun i h ag j TP hi z w q tk tw je st => ?_) (fun h7 w7 H7 => ?_)
      · have y := YL_fw H6.y w
        obtain ⟨s1, s2, s3⟩ := szu a0 q.1
        obtain ⟨s4, s5, s6⟩ := szu b0 q.1
        refine xo_g y.1 (xo_n y.r13 (xo_g y.1 (xo_n y.r15 (xo_g (y.g15 (by omega)) (xo_g (by rw [s2]; exact y.g13 s3) ?_)))))
        by_cases c : i = nuS S u
        · exact xo_t (by rw [s1, c]; exact Int32.le_refl _) (je c)
        · refine xo_f (by rw [s1]; exact nI_ge (by omega) (by omega)) (xo_g y.1 (xo_n y.r12 (xo_g y.1 (xo_n y.r13 (xo_g y.1 (xo_n y.r15 (xo_g (y.g15 (by omega)) (xo_g (by rw [s5]; exact y.g13 s6) (xo_g y.1 ?_)))))))))
          rw [s4, nI_p _ (by omega) glu0]
          refine xo_b tk (fun v h8 q8 => ?_)
          have y8 := YL_fw y (tw v h8 q8)
          have cx : ((432 : Int32) + 8 * nI (sna S)) + nI i = nI (432 + 8 * sna S + i) := by rw [li432, li8, nI_m, nI_a, nI_a]
          rw [cx]
          refine xo_g (y8.g12 (by omega)) (xo_lt ?_)
          rw [xz_nI (by omega)]
          exact st (by omega) v h8 q8
      · have w17 := w16.trans (fw_ey w7)
        rw [eo_n] at H7
        cases hF : eEl B (nuS S l - 1) (nxn B t 4) (nuS S u) with
        | some e =>
          rw [hF] at H7
          have H7 : RSy h7 Y B (some e) (nxn B t 4) (fun _ => True) := RSy_s H7
          refine el_loop (E := E) (n := 0) (hi := 1) (base := 0) H7 (fun _ _ _ _ => trivial) (by omega) (by omega) (fun i h ag j TP _ z => by cases z) (fun h8 w8 H8 => ?_)
          have H8 : RSy h8 Y B (some e) (nxn B t 4) (fun _ => True) := RSy_s H8
          exact xo_g H8.y.1 (xo_jn (xo_f (fun z => by cases (H8.wr).mp z) (xo_v ⟨w17.trans (fw_ey w8), RSy_s H8⟩)))
        | none =>
          rw [hF] at H7
          rw [eo_n]
          refine el_loop (E := E) (er := none) (t := nxn B (nxn B t 4) (nuS S u)) (n := nlS2 S u) (hi := nlS2 S l - 1) (base := 496 + 8 * sna S) H7 (fun a b w q => ⟨Q1_c ws a b (ey_c2 hg guv8 (Or.inr rfl) w) q.1, fun k hk => (w.i (fun z => by unfold eY oY at z; omega)).trans (q.2 k hk)⟩) guv8 (by omega) (fun i h ag j TP hi z w q tk tw je st => ?_) (fun h8 w8 H8 => ?_)
          · have y := YL_fw H7.y w
            obtain ⟨s1, s2, s3⟩ := szl a0 q.1.1
            obtain ⟨s4, s5, s6⟩ := szl b0 q.1.1
            refine xo_g y.1 (xo_n y.r13 (xo_g y.1 (xo_n y.r16 (xo_g (y.g16 (by omega)) (xo_g (by rw [s2]; exact y.g13 s3) ?_)))))
            by_cases c : i = nlS2 S u
            · exact xo_t (by rw [s1, c]; exact Int32.le_refl _) (je c)
            · refine xo_f (by rw [s1]; exact nI_ge (by omega) (by omega)) (xo_g y.1 (xo_n y.r12 (xo_g y.1 (xo_n y.r13 (xo_g y.1 (xo_n y.r16 (xo_g (y.g16 (by omega)) (xo_g (by rw [s5]; exact y.g13 s6) (xo_g y.1 ?_)))))))))
              rw [s4, nI_p _ (by omega) glv0]
              refine xo_b tk (fun v h9 q9 => ?_)
              have y9 := YL_fw y (tw v h9 q9)
              have cx : ((496 : Int32) + 8 * nI (sna S)) + nI i = nI (496 + 8 * sna S + i) := by rw [li496, li8, nI_m, nI_a, nI_a]
              rw [cx]
              refine xo_g (y9.g12 (by omega)) (xo_lt ?_)
              rw [xz_nI (by omega)]
              exact st (by omega) v h9 q9
          · have w18 := w17.trans (fw_ey w8)
            rw [eo_n] at H8
            refine xo_g H8.y.1 (xo_jn ?_)
            cases hG : eEl B (nlS2 S l - 1) (nxn B (nxn B t 4) (nuS S u)) (nlS2 S u) with
            | some e =>
              rw [hG] at H8
              exact xo_f (fun z => by cases (H8.wr).mp z) (xo_v ⟨w18, RSy_s H8⟩)
            | none =>
              rw [hG] at H8
              obtain ⟨q1, ⟨q2, q3⟩, ⟨⟨q4, q5⟩, q6⟩, q7⟩ := H8.2
              have y8 := H8.y
              refine xo_t q1 (xo_g y8.1 (xo_n y8.r17 (xo_g (y8.g17 hg) (xo_wz (by omega) (fun h9 e9 => ?_)))))
              have v9 : fW (cY Y S) noR h8 h9 := fw_i e9 (Or.inr (Or.inr (Or.inr ⟨hg, Or.inl ⟨by omega, rfl⟩⟩)))
              have y9 := YL_fw y8 v9
              refine xo_g y9.1 (xo_n y9.r18 (xo_g (y9.g18 hg) (xo_wz (by omega) (fun h10 e10 => ?_))))
              have v10 : fW (cY Y S) noR h8 h10 := v9.trans (fw_i e10 (Or.inr (Or.inr (Or.inr ⟨hg, Or.inl ⟨by omega, rfl⟩⟩))))
              have y10 := YL_fw y8 v10
              have f10 : xi h10 Y 37 = nI (sna S) := (v10.i (fun q => by unfold cY oY at q; omega)).trans ((w8.i (fun q => by unfold eY oY at q; omega)).trans ((w7.i (fun q => by unfold eY oY at q; omega)).trans f6))
              refine xo_g y10.1 (xo_g y10.1 ?_)
              rw [f10, nI_s]
              refine xo_wi (fun h11 e11 => xo_v ⟨(w18.trans (fw_ya v10)).trans (fw_i e11 (Or.inr (Or.inl ⟨rfl, by omega, by omega⟩))), ?_⟩)
              have v11 : fW (fun a j => (a = Y ∧ j = 37) ∨ Y + 12 ≤ a) noR h8 h11 := ((fw_i (R := noR) (A := fun a j => (a = Y ∧ j = 37) ∨ Y + 12 ≤ a) e9 (Or.inr (by omega))).trans (fw_i e10 (Or.inr (by omega)))).trans (fw_i e11 (Or.inl ⟨rfl, rfl⟩))
              refine ⟨RLy_fw H8.1 v11 (fun a j q => by omega), (v11.i (fun q => by omega)).trans q1, ⟨q2, RTk_fw q3 v11 (fun j _ _ q => by omega)⟩, ?_⟩
              refine RQ_r (RQ_c ws _ _ v10 q4) ws a0 b0 e11 (RNn_c _ _ v10 q5) ⟨?_, e_s e10⟩ (fun a ha => ?_) (fun a ha => ?_)
              · rw [e_o e10 (Or.inl (by omega))]; exact e_s e9
              · rw [e_o e10 (Or.inl (by omega)), e_o e9 (Or.inl (by omega))]
                exact q6 a ha
              · rw [e_o e10 (Or.inl (by omega)), e_o e9 (Or.inl (by omega))]
                exact q7 a ha
  · by_cases c : sna S = 8
    · refine xo_t ?_ (jh _ _ ⟨rfl, ?_⟩)
      · rw [c]; rfl
      · rw [decide_eq_true c]; rfl
    · refine xo_f ?_ (jh _ _ ⟨rfl, ?_⟩)
      · rw [li8, nI_eqP (by omega) (by omega)]; exact c
      · rw [decide_eq_false c]; rfl
theorem line_o {A : PA} (H : RSy h Y B none (paK A) (fun h => RQy h Y (paZ A) (paT A) (paD A))) (wa : WA B A) : xo (FX9_line E Y h) (fun _ h' => LR h Y B (eLine B A) (nLine B A) h') := by
  obtain ⟨wk, ws, wt, nm⟩ := wa
  have kt := H.2.2.1.2
  have e0 := H.2.1
  unfold FX9_line
  refine xo_g H.y.1 (xo_eb (isWord_v (c := 2) H.1 wk kt e0 (by omega) (by omega)) ?_)
  refine xo_jh (fun h' => LR h Y B (eLine B A) (nLine B A) h') (fun h' q => xo_v q) (fun j jh => ?_)
  by_cases b2 : isW B (paK A) 2 = true
  · have e1 : eLine B A = eGl B (paZ A) (paK A) := if_pos b2
    have e2 : nLine B A = nGl B (paZ A) (paT A) (paD A) (paK A) := if_pos b2
    rw [e1, e2] at jh
    rw [b2, e1, e2]
    exact xo_f (by decide) (xo_g H.y.1 (xo_b (groupLine_o H ws nm) (fun v h' q => jh _ q)))
  have b2' : isW B (paK A) 2 = false := by simpa using b2
  rw [b2']
  refine xo_t rfl (xo_g H.y.1 (xo_eb (isWord_v (c := 7) H.1 wk kt e0 (by omega) (by omega)) ?_))
  by_cases b3 : isW B (paK A) 7 = true
  · have e1 : eLine B A = eMl B (paZ A) (paK A) := by unfold eLine; rw [if_neg b2, if_pos b3]
    have e2 : nLine B A = nMl B (paZ A) (paT A) (paD A) (paK A) := by unfold nLine; rw [if_neg b2, if_pos b3]
    rw [e1, e2] at jh
    rw [b3, e1, e2]
    exact xo_f (by decide) (xo_g H.y.1 (xo_b (moduleLine_o H ws nm) (fun v h' q => jh _ q)))
  have b3' : isW B (paK A) 7 = false := by simpa using b3
  rw [b3']
  refine xo_t rfl (xo_g H.y.1 (xo_eb (isWord_v (c := 8) H.1 wk kt e0 (by omega) (by omega)) ?_))
  by_cases b4 : isW B (paK A) 8 = true
  · have e1 : eLine B A = eAl B (paZ A) (paD A) (paK A) := by unfold eLine; rw [if_neg b2, if_neg b3, if_pos b4]
    have e2 : nLine B A = nAl B (paZ A) (paT A) (paD A) (paK A) := by unfold nLine; rw [if_neg b2, if_neg b3, if_pos b4]
    rw [e1, e2] at jh
    rw [b4, e1, e2]
    exact xo_f (by decide) (xo_g H.y.1 (xo_b (actLine_o H ws nm) (fun v h' q => jh _ q)))
  have b4' : isW B (paK A) 8 = false := by simpa using b4
  rw [b4']
  refine xo_t rfl (xo_g H.y.1 (xo_eb (isWord_v (c := 9) H.1 wk kt e0 (by omega) (by omega)) ?_))
  by_cases b5 : isW B (paK A) 9 = true
  · have e1 : eLine B A = eRl B (paZ A) (paK A) := by unfold eLine; rw [if_neg b2, if_neg b3, if_neg b4, if_pos b5]
    have e2 : nLine B A = nRl B (paZ A) (paT A) (paD A) (paK A) := by unfold nLine; rw [if_neg b2, if_neg b3, if_neg b4]
    rw [e1, e2] at jh
    rw [b5, e1, e2]
    exact xo_f (by decide) (xo_g H.y.1 (xo_b (arrowLine_o H ws nm) (fun v h' q => jh _ q)))
  · have e1 : eLine B A = some (1, tkA (paK A)) := by unfold eLine; rw [if_neg b2, if_neg b3, if_neg b4, if_neg b5]
    have b5' : isW B (paK A) 9 = false := by simpa using b5
    rw [e1] at jh
    rw [b5', e1]
    exact xo_t rfl (xo_g H.y.1 (xo_b (fails_s H (StA_o (RQ_c ws)) (code := 1) (by omega) (by omega)) (fun v h' q => jh _ ⟨fw_ya (S := paZ A) (fw_oc q.1), RSy_s q.2⟩)))
theorem RQ_0 (c : xi h Y 35 = 0 ∧ xi h Y 36 = 0 ∧ xi h Y 37 = 0) (z : ∀ w, w < 3 → xi h (Y + 12) (560 + w) = 0) : RQy h Y S0 T0 (fun _ => 0) :=
  ⟨c, fun g hg => absurd hg (Nat.not_lt_zero _), fun m hm => absurd hm (Nat.not_lt_zero _), fun m hm => absurd hm (Nat.not_lt_zero _), ⟨fun m a hm => absurd hm (Nat.not_lt_zero _), fun m g a hm => absurd hm (Nat.not_lt_zero _), fun m a hm => absurd hm (Nat.not_lt_zero _), fun m a hm => absurd hm (Nat.not_lt_zero _), fun w hw => by rw [Nat.zero_add]; exact z w hw⟩, fun s hs k i hk => (S0_sc hk).elim⟩
/-- where reading writes -/
def yRd (Y : Nat) : Nat → Nat → Prop := fun a j => (a = Y ∧ 20 ≤ j ∧ j ≤ 26) ∨ (a = Y ∧ 35 ≤ j ∧ j ≤ 37) ∨ (Y + 12 ≤ a ∧ a ≤ Y + 20)
theorem reads_o (y : YL h Y) (hn : B.2 ≤ 900) (hb : ∀ i, i < B.2 → xi h (Y + 11) i = nI (B.1 i) ∧ B.1 i < 256) : xo (FX9_reads E Y (nI B.2) h) (fun _ h' => fW (yRd Y) noR h h' ∧ RSy h' Y B (eText B) (paK (tkE B)) (fun h => RQy h Y (paZ (tkE B)) (paT (tkE B)) (paD (tkE B)))) := by
  have wk0 : WK B (tkF B 0) := tkF_wk (Nat.zero_le _)
  unfold FX9_reads
  refine xo_g y.1 (xo_wi (fun h1 e1 => ?_))
  have w1 : fW (yRd Y) noR h h1 := fw_i e1 (Or.inl ⟨rfl, by omega, by omega⟩)
  refine xo_g (YL_fw y w1).1 (xo_wi (fun h2 e2 => ?_))
  have w2 : fW (yRd Y) noR h h2 := w1.trans (fw_i e2 (Or.inl ⟨rfl, by omega, by omega⟩))
  refine xo_g (YL_fw y w2).1 (xo_wi (fun h3 e3 => ?_))
  have w3 : fW (yRd Y) noR h h3 := w2.trans (fw_i e3 (Or.inl ⟨rfl, by omega, by omega⟩))
  refine xo_g (YL_fw y w3).1 (xo_wi (fun h4 e4 => ?_))
  have w4 : fW (yRd Y) noR h h4 := w3.trans (fw_i e4 (Or.inl ⟨rfl, by omega, by omega⟩))
  refine xo_g (YL_fw y w4).1 (xo_wi (fun h5 e5 => ?_))
  have w5 : fW (yRd Y) noR h h5 := w4.trans (fw_i e5 (Or.inr (Or.inl ⟨rfl, by omega, by omega⟩)))
  refine xo_g (YL_fw y w5).1 (xo_wi (fun h6 e6 => ?_))
  have w6 : fW (yRd Y) noR h h6 := w5.trans (fw_i e6 (Or.inr (Or.inl ⟨rfl, by omega, by omega⟩)))
  refine xo_g (YL_fw y w6).1 (xo_wi (fun h7 e7 => ?_))
  have w7 : fW (yRd Y) noR h h7 := w6.trans (fw_i e7 (Or.inr (Or.inl ⟨rfl, by omega, by omega⟩)))
  have k20 : xi h7 Y 20 = nI B.2 := by
    rw [e_o e7 (Or.inr (by decide)), e_o e6 (Or.inr (by decide)), e_o e5 (Or.inr (by decide)), e_o e4 (Or.inr (by decide)), e_o e3 (Or.inr (by decide)), e_o e2 (Or.inr (by decide)), e_s e1]
  have k21 : xi h7 Y 21 = 0 := by
    rw [e_o e7 (Or.inr (by decide)), e_o e6 (Or.inr (by decide)), e_o e5 (Or.inr (by decide)), e_o e4 (Or.inr (by decide)), e_o e3 (Or.inr (by decide)), e_s e2]
  have k25 : xi h7 Y 25 = 0 := by
    rw [e_o e7 (Or.inr (by decide)), e_o e6 (Or.inr (by decide)), e_o e5 (Or.inr (by decide)), e_o e4 (Or.inr (by decide)), e_s e3]
  have k35 : xi h7 Y 35 = 0 ∧ xi h7 Y 36 = 0 ∧ xi h7 Y 37 = 0 := by
    refine ⟨?_, ?_, e_s e7⟩
    · rw [e_o e7 (Or.inr (by decide)), e_o e6 (Or.inr (by decide)), e_s e5]
    · rw [e_o e7 (Or.inr (by decide)), e_s e6]
  refine xlp_inv (Po := fun m => xo m _) (fun i s h' => s = nI i ∧ fW (fun a j => a = Y + 12) noR h7 h' ∧ ∀ k, k < i → xi h' (Y + 12) k = 0) 563 (by omega) (fun i s h8 ag hi I again => ?_) ⟨rfl, fW.refl _ _ _, fun k hk => absurd hk (Nat.not_lt_zero _)⟩
  obtain ⟨rfl, v8, d8⟩ := I
  have w8 : fW (yRd Y) noR h h8 := w7.trans (v8.wide (fun a j q => Or.inr (Or.inr ⟨by omega, by omega⟩)) (fun a j q => q))
  have y8 := YL_fw y w8
  by_cases c : i = 563
  · subst c
    have l8 : RLy h8 Y B := ⟨y8, ⟨(v8.i (fun q => by omega)).trans k20, hn⟩, fun i hi => ⟨(w8.i (fun q => by unfold yRd at q; omega)).trans (hb i hi).1, (hb i hi).2⟩⟩
    have rq8 : RQy h8 Y S0 T0 (fun _ => 0) := RQ_0 ⟨(v8.i (fun q => by omega)).trans k35.1, (v8.i (fun q => by omega)).trans k35.2.1, (v8.i (fun q => by omega)).trans k35.2.2⟩ (fun w hw => d8 _ (by omega))
    have Qo : StA (oY Y) (fun h => RQy h Y S0 T0 (fun _ => 0)) := StA_o (RQ_c S0_ws)
    refine xo_t (by decide) (xo_g y8.1 (xo_b (token_o (p := 0) l8 ((v8.i (fun q => by omega)).trans k21) (Nat.zero_le _)) (fun _ h9 q => ?_)))
    obtain ⟨w9, k9⟩ := q
    have l9 := RLy_t l8 w9
    have o9 := fw_to w9
    have H9 : RSy h9 Y B none (tkF B 0) (fun h => RQy h Y S0 T0 (fun _ => 0)) := ⟨l9, (w9.i (fun q => by unfold tY at q; omega)).trans ((v8.i (fun q => by omega)).trans k25), ⟨wk0, k9⟩, Qo _ _ o9 rq8⟩
    have wr : ∀ {a b}, fW (oY Y) noR a b → fW (yRd Y) noR a b := fun w => w.wide (fun a j q => Or.inl ⟨q.1, by have := q.2.1; omega, q.2.2⟩) (fun a j q => q)
    have wl : ∀ {a b}, fW (yAll Y) noR a b → fW (yRd Y) noR a b := fun w => w.wide (fun a j q => by
      rcases q with q | q | q
      · exact Or.inl ⟨q.1, by omega, q.2.2⟩
      · exact Or.inr (Or.inl q)
      · exact Or.inr (Or.inr q)) (fun a j q => q)
    refine xo_g H9.y.1 (xo_eb (isWord_v (c := 1) H9.1 wk0 k9 H9.2.1 (by omega) (by omega)) ?_)
    refine xo_jp (fun v h' => h' = h9 ∧ v = bI (!isW B (tkF B 0) 1)) (fun v h' z => ?_) (fun j jh => ?_)
    · obtain ⟨rfl, rfl⟩ := z
      refine xo_g H9.y.1 (xo_b (failsIf_s (code := 1) (c := !isW B (tkF B 0) 1) H9 Qo (by omega) (by omega) (fun _ => rfl)) (fun _ h10 q => ?_))
      obtain ⟨w10, H10⟩ := q
      refine xo_g H10.y.1 (xo_b (goesOn_s H10 Qo) (fun _ h11 q => ?_))
      obtain ⟨w11, H11⟩ := q
      have w811 := (w8.trans (wr o9)).trans (wr (w10.trans w11))
      rw [eo_n] at H11
      unfold eText tkE
      generalize he0 : ck (!isW B (tkF B 0) 1) 1 (tkF B 0) = e0 at *
      refine xlp_inv (Po := fun m => xo m _) (fun i s h' => ∃ A pe, fW (yRd Y) noR h h' ∧ RSy h' Y B (eo e0 pe) (paK A) (fun h => RQy h Y (paZ A) (paT A) (paD A)) ∧ eLoop B 900 (A00 B) = eo pe (eLoop B (900 - i) A) ∧ (pe = none → nLoop B 900 (A00 B) = nLoop B (900 - i) A ∧ WA B A ∧ i ≤ tkA (paK A))) 900 (by omega) (fun i s h12 ag hi I again => ?_) ⟨A00 B, none, w811, by rw [eo_nn]; exact H11, rfl, fun _ => ⟨rfl, A00_wa B, Nat.zero_le _⟩⟩
      obtain ⟨A, pe, w12, H12, ee, en⟩ := I
      refine xo_g H12.y.1 (xo_jh (fun h' => h' = h12 ∧ (eo e0 pe = none → ¬ tkK (paK A) = 3)) (fun h' z => ?_) (fun j2 jh2 => ?_))
      · obtain ⟨rfl, hk⟩ := z
        cases hE : eo e0 pe with
        | some e =>
          rw [hE] at H12
          have eT : eo e0 (eo (eLoop B 900 (A00 B)) (ck (decide (tkK (paK (nLoop B 900 (A00 B))) ≠ 0)) 1 (paK (nLoop B 900 (A00 B))))) = some e := by
            rw [ee, ← eo_as, ← eo_as, hE]
            rfl
          rw [eT]
          refine xo_g H12.y.1 (xo_jp (fun v h13 => h13 = h') (fun v h13 z => ?_) (fun j3 jh3 => ?_))
          · subst z
            refine xo_g H12.y.1 (xo_b (failsIf_s (code := 1) (c := true) (RSy_s (t' := paK A) (Q' := fun _ => True) H12) (fun _ _ _ _ => trivial) (by omega) (by omega) (fun z => by cases z)) (fun _ h14 q => xo_v ⟨w12.trans (wr q.1), RSy_s q.2⟩))
          · by_cases z : xi h' Y 23 = 0
            · exact xo_t z (jh3 _ _ rfl)
            · exact xo_f z (jh3 _ _ rfl)
        | none =>
          rw [hE] at H12
          obtain ⟨z1, z2⟩ := eo_none hE
          obtain ⟨en1, wa, en3⟩ := en z2
          have k3 := hk hE
          rw [z1, eo_n, ee, z2, eo_n, eLoop_e k3, eo_n, en1, nLoop_e k3]
          have k4 := wa.1.2.2.2.2
          refine xo_g H12.y.1 (xo_jp (fun v h13 => h13 = h' ∧ v = bI (decide (tkK (paK A) ≠ 0))) (fun v h13 z => ?_) (fun j3 jh3 => ?_))
          · obtain ⟨rfl, rfl⟩ := z
            refine xo_g H12.y.1 (xo_b (failsIf_s (code := 1) (c := decide (tkK (paK A) ≠ 0)) H12 (StA_o (RQ_c wa.2.1)) (by omega) (by omega) (fun _ => rfl)) (fun _ h14 q => xo_v ⟨w12.trans (wr q.1), q.2⟩))
          · rw [H12.2.2.1.2.1.2.2]
            by_cases z : tkK (paK A) = 0
            · exact xo_t (by rw [z]; rfl) (jh3 _ _ ⟨rfl, by rw [decide_eq_false (show ¬ tkK (paK A) ≠ 0 by omega)]; rfl⟩)
            · exact xo_f (by rw [nI_eq0 (by omega)]; exact z) (jh3 _ _ ⟨rfl, by rw [decide_eq_true (show tkK (paK A) ≠ 0 from z)]; rfl⟩)
      · cases hE : eo e0 pe with
        | some e =>
          rw [hE] at H12 jh2
          exact xo_f (fun z => by cases (H12.wr).mp z) (jh2 _ ⟨rfl, fun z => by cases z⟩)
        | none =>
          rw [hE] at H12 jh2
          obtain ⟨z1, z2⟩ := eo_none hE
          obtain ⟨en1, wa, en3⟩ := en z2
          have k4 := wa.1.2.2.2.2
          refine xo_t H12.2.1 (xo_g H12.y.1 ?_)
          rw [H12.2.2.1.2.1.2.2]
          by_cases k3 : tkK (paK A) = 3
          · have tl := wa.1.2.2.2.1 k3
            have tn := wa.1.1.2
            have ilt : i < 900 := by omega
            have ef : 900 - i = (900 - (i + 1)) + 1 := by omega
            rw [ef, eLoop_s k3, z2, eo_n] at ee
            rw [ef, nLoop_s k3] at en1
            have Qa : StA (oY Y) (fun h => RQy h Y (paZ A) (paT A) (paD A)) := StA_o (RQ_c wa.2.1)
            refine xo_t (by rw [k3]; rfl) (xo_g H12.y.1 (xo_b (token_o H12.1 H12.2.2.1.2.1.2.1 tn) (fun _ h13 q => ?_)))
            obtain ⟨w13, k13⟩ := q
            have o13 := fw_to w13
            have H13 : RSy h13 Y B none (paK (aNx B A)) (fun h => RQy h Y (paZ A) (paT A) (paD A)) := ⟨RLy_t H12.1 w13, (w13.i (fun q => by unfold tY at q; omega)).trans H12.2.1, ⟨nx_wk wa.1, k13⟩, Qa _ _ o13 H12.2.2.2⟩
            have wa13 := aNx_wa wa
            refine xo_g H13.y.1 (xo_b (line_o (A := aNx B A) H13 wa13) (fun _ h14 q => ?_))
            obtain ⟨w14, H14⟩ := q
            refine again ilt _ _ ⟨nLine B (aNx B A), eLine B (aNx B A), (w12.trans (wr o13)).trans (wl w14), by rw [z1, eo_n]; exact H14, ee, fun z => ⟨en1, nLine_wa wa13 z, ?_⟩⟩
            have u1 := nx_up3 wa.1 k3
            have u2 := nLine_up (A := aNx B A) wa13.1
            have u3 : tkA (paK (aNx B A)) = tkA (nx B (paK A)) := rfl
            omega
          · exact xo_f (by rw [li3, nI_eqP (by omega) (by omega)]; exact k3) (jh2 _ ⟨rfl, fun _ => k3⟩)
    · cases b : isW B (tkF B 0) 1 with
      | false => exact xo_t rfl (jh _ _ ⟨rfl, by rw [b]; rfl⟩)
      | true => exact xo_f (by decide) (jh _ _ ⟨rfl, by rw [b]; rfl⟩)
  · refine xo_f (by rw [li563, nI_leP (by omega) (by omega)]; omega) (xo_g y8.1 (xo_n y8.r12 (xo_g (y8.g12 (by omega)) (xo_wz (by omega) (fun h9 e9 => ?_)))))
    rw [nI_s]
    refine again (by omega) _ _ ⟨rfl, v8.trans (fw_i e9 rfl), fun k hk => ?_⟩
    by_cases z : k = i
    · rw [z]; exact e_s e9
    · rw [e_o e9 (Or.inr z)]; exact d8 k (by omega)
end RLI
