/-! The class reads arrows, a line, a text. -/
set_option linter.unusedVariables false
section LINE
variable {E : XG} {h h' h1 h2 : XH} {X W K P : Nat} {B : BF} {t : TK} {S : SD} {T : ST} {D : Nat → Int32}
theorem readArrow_o (H : SH h X W K P B S T D t) (ws : WS S) (nm : WNm S) (wk : WK B t) : xo (FX5_readArrow E P h) (fun v h' => LPq h W K P B (eRl B S t) (nRl B S T D t) v h') := by
  have lt := H.lt
  have g := H.1.1
  obtain ⟨⟨g1, g2, g3⟩, g4⟩ := H.1.1
  have wk2 := nxn_wk wk 2
  have wk3 := nxn_wk wk 3
  have m6 := ws.1.2.1
  unfold FX5_readArrow
  refine xo_g H.1.pk (xo_n H.1.pw (xo_g H.1.wk (xo_n H.1.wl.ra (xo_g H.1.pk (xo_b (readNewName_o H.1 H.2.1 ws nm H.2.2 wk (show 2 < 3 by omega)) (fun v h1 q1 => ?_))))))
  obtain ⟨w1, c1⟩ := q1
  have eG : eRl B S t = eo (eo (ck (decide (scn S 2 = mxS 2)) 4 t) (eNm B S 2 (nx B t))) (eo (eKn B S 1 (nxn B t 2)) (eo (eKn B S 1 (nxn B t 3)) (eo (eEl B (nuS S (oRl B S t) - 1) (nxn B t 4) (nuS S (fRl B S t))) (eEl B (nlS2 S (oRl B S t) - 1) (nxn B (nxn B t 4) (nuS S (fRl B S t))) (nlS2 S (fRl B S t)))))) := (eo_as _ _ _).symm
  have hj : ∀ h2, (fW (rdA W K P) (rdR W) h h2 ∧ ∃ er, eRl B S t = some er ∧ xi h2 P 2 = nI er.1 ∧ xi h2 P 3 = nI er.2) → xo (xg ((0 : Int32) = 0 ∨ (0 : Int32) = 1) (xv 0 h2)) (fun v h' => LPq h W K P B (eRl B S t) (nRl B S T D t) v h') := fun h2 q => by
    obtain ⟨q1, er, q2, q3⟩ := q
    rw [q2]
    exact xo_g (Or.inl rfl) (xo_v ⟨q1, rfl, q3⟩)
  refine xo_jh (fun h2 => fW (rdA W K P) (rdR W) h h2 ∧ ∃ er, eRl B S t = some er ∧ xi h2 P 2 = nI er.1 ∧ xi h2 P 3 = nI er.2) hj (fun j30 jh => ?_)
  cases hE : eo (ck (decide (scn S 2 = mxS 2)) 4 t) (eNm B S 2 (nx B t)) with
  | some er =>
    rw [hE] at c1
    exact xo_t c1.1 (jh _ ⟨fw_rd w1, er, by rw [eG, hE]; rfl, c1.2⟩)
  | none =>
    rw [hE] at c1
    rw [hE, eo_n] at eG
    obtain ⟨c1, sm1, h6, k1, n1⟩ := c1
    have h6 : sna S < 8 := h6
    have H1 : SH h1 X W K P B S T D (nxn B t 2) := ⟨H.1.fb w1, H.2.1.fb w1 ws H.1.1, k1⟩
    refine xo_f (by rw [c1]; decide) (xo_g H1.1.pk (xo_n H1.1.pw (xo_g H1.1.wk (xo_n H1.1.wl.rm (xo_g H1.1.pk (xo_b (known_s H1 ws nm wk2 (show 1 < 3 by omega)) (fun v h2 q2 => ?_)))))))
    obtain ⟨w2, H2, c2⟩ := q2
    cases hF : eKn B S 1 (nxn B t 2) with
    | some er =>
      rw [hF] at c2
      exact xo_t c2.1 (jh _ ⟨fw_rd (w1.trans (fw_ka w2)), er, by rw [eG, hF]; rfl, c2.2⟩)
    | none =>
      rw [hF] at c2
      rw [hF, eo_n] at eG
      have a0 : fRl B S t < snm S := (eKn_0 hF).2
      refine xo_f (by rw [c2.1]; decide) (xo_g H2.1.pk (xo_eb (moduleTold_v H2.1 H2.2.1 ws nm H2.2.2 wk2 hF) (xo_g H2.1.pk (xo_n H2.1.pt (xo_g H2.1.kk (xo_b (adv_s H2 ws wk2) (fun _ h3 q3 => ?_)))))))
      obtain ⟨w3, H3, u3⟩ := q3
      have H3 : SH h3 X W K P B S T D (nxn B t 3) := H3
      refine xo_g H3.1.pk (xo_n H3.1.pw (xo_g H3.1.wk (xo_n H3.1.wl.rm (xo_g H3.1.pk (xo_b (known_s H3 ws nm wk3 (show 1 < 3 by omega)) (fun v h4 q4 => ?_))))))
      obtain ⟨w4, H4, c4⟩ := q4
      have w14 := w1.trans (fw_ka ((w2.trans w3).trans w4))
      cases hG : eKn B S 1 (nxn B t 3) with
      | some er =>
        rw [hG] at c4
        refine xo_t c4.1 (xo_g (Or.inl rfl) (xo_v ⟨fw_rd w14, ?_⟩))
        rw [eG, hG]
        exact ⟨rfl, c4.2⟩
      | none =>
        rw [hG] at c4
        rw [hG, eo_n] at eG
        have b0 : oRl B S t < snm S := (eKn_0 hG).2
        refine xo_f (by rw [c4.1]; decide) (xo_g H4.1.pk (xo_eb (moduleTold_v H4.1 H4.2.1 ws nm H4.2.2 wk3 hG) ?_))
        rw [show nmI S 1 (wdT B (nxn B t 2)) = fRl B S t from rfl, show nmI S 1 (wdT B (nxn B t 3)) = oRl B S t from rfl]
        unfold nRl at hj jh ⊢
        generalize hu : fRl B S t = u at *
        generalize hv : oRl B S t = v9 at *
        obtain ⟨u0, v0⟩ := ws.2.2.1 u a0
        obtain ⟨u1, v1⟩ := ws.2.2.1 v9 b0
        have g6 := ws.1.1
        have gu0 := ws.2.1 _ u0
        have gv0 := ws.2.1 _ v0
        have gu1 := ws.2.1 _ u1
        have gv1 := ws.2.1 _ v1
        refine xo_g H4.1.pk (xo_n H4.1.pt (xo_g H4.1.kk (xo_b (adv_s H4 ws wk3) (fun _ h5 q5 => ?_))))
        obtain ⟨w5, H5, u5⟩ := q5
        have H5 : SH h5 X W K P B S T D (nxn B t 4) := H5
        have w0 := H5.1.wl
        have cn : xi h5 (W + 7) 2 = nI (sna S) := H5.2.1.1 2 (by omega)
        have al := (w0.2.2.2.2 (sna S) h6).2
        refine xo_g H5.1.pk (xo_n H5.1.pw (xo_g H5.1.wk (xo_n w0.r12 (xo_g w0.ka ?_))))
        rw [cn]
        refine xo_g ⟨w0.k12, by rw [w0.n12]; exact xin_nI h6 (by omega)⟩ (xo_n (w0.a h6) (xo_g al.1 (xo_wr (fun h6' e6 => ?_))))
        have w6 : fW (bK W K P S) (bR W S) h5 h6' := fw_r e6 (Or.inr ⟨h6, rfl, Or.inl rfl⟩)
        refine xo_g ((w6.k _).trans al.1) (xo_wr (fun h7 e7 => ?_))
        have w7 : fW (bK W K P S) (bR W S) h6' h7 := fw_r e7 (Or.inr ⟨h6, rfl, Or.inr rfl⟩)
        have H7 : SH h7 X W K P B S T D (nxn B t 4) := H5.fb (w6.trans w7) ws (by
          have k5 := H5.2.2
          rw [e7, e6]
          exact k5)
        have r7 : xr h7 (W + 80 + 3 * sna S) 0 = some (W + 32 + 8 * u) ∧ xr h7 (W + 80 + 3 * sna S) 1 = some (W + 32 + 8 * v9) := by
          refine ⟨?_, ?_⟩
          · rw [e7, xr_yr, if_neg (fun z => by cases z.2), e6, xr_yr, if_pos ⟨rfl, rfl⟩]
          · rw [e7, xr_yr, if_pos ⟨rfl, rfl⟩]
        have al7 := (H7.1.wl.2.2.2.2 (sna S) h6).2
        have mu7 := (H7.1.wl.2.2.2.1 u (by omega)).2
        have mv7 := (H7.1.wl.2.2.2.1 v9 (by omega)).2
        have cu7 := H7.2.1.2.2.1 u a0
        have cv7 := H7.2.1.2.2.1 v9 b0
        have ggu := H7.ggl (show smu S u < 6 by omega)
        have ggv := H7.ggl (show smu S v9 < 6 by omega)
        refine xo_g al7.1 (xo_n al7.2.1.1 (xo_g mu7.1 (xo_n cu7.1.1 (xo_g mv7.1 (xo_n cv7.1.1 (xo_g H7.1.pk (xo_b (readElements_o (fr := 0) (n := nuS S u) (m := nuS S v9) (len := 8) H7.1 H7.2.2 (nxn_wk wk 4) ⟨al7.2.1.2.1, al7.2.1.2.2, (by have := gu0.1.2; unfold nuS; omega), by omega⟩ (fun j => by unfold rdA; omega) ⟨by omega, by omega⟩ ⟨ggu.1, (H7.2.1.2.1 _ u0).1, by omega⟩ ⟨ggv.1, (H7.2.1.2.1 _ u1).1, gu1.1.1, gu1.1.2, by omega⟩ gu0.1.2) (fun v h8 q8 => ?_))))))))
        obtain ⟨w8, c8⟩ := q8
        have w8' : fW (bK W K P S) (bR W S) h7 h8 := w8.wide (fun a j q => by
          rcases q with q | q | q
          · exact Or.inl q
          · exact Or.inr (Or.inl q)
          · exact Or.inr (Or.inr (Or.inr (Or.inr ⟨h6, Or.inl q.1⟩)))) (fun a j q => q.elim)
        have w18k : fW (bK W K P S) (bR W S) h1 h8 := (((((w2.trans w3).trans w4).trans w5).trans w6).trans w7).trans w8'
        have w18 := w1.trans (fw_ka w18k)
        refine xo_jh (fun h2 => fW (rdA W K P) (rdR W) h h2 ∧ ∃ er, eRl B S t = some er ∧ xi h2 P 2 = nI er.1 ∧ xi h2 P 3 = nI er.2) hj (fun j140 jh2 => ?_)
        cases hL : eEl B (nuS S v9 - 1) (nxn B t 4) (nuS S u) with
        | some er =>
          rw [hL] at c8
          exact xo_t c8.1 (jh2 _ ⟨fw_rd w18, er, by rw [eG, hL]; rfl, c8.2⟩)
        | none =>
          rw [hL] at c8
          rw [hL, eo_n] at eG
          obtain ⟨c8, sm8, k8, v8⟩ := c8
          have H8 : SH h8 X W K P B S T D (nxn B (nxn B t 4) (nuS S u)) := ⟨H.1.fb w18, H.2.1.fb w18 ws g, k8⟩
          have al8 := (H8.1.wl.2.2.2.2 (sna S) h6).2
          have mu8 := (H8.1.wl.2.2.2.1 u (by omega)).2
          have mv8 := (H8.1.wl.2.2.2.1 v9 (by omega)).2
          have cu8 := H8.2.1.2.2.1 u a0
          have cv8 := H8.2.1.2.2.1 v9 b0
          have ggu8 := H8.ggl (show sml S u < 6 by omega)
          have ggv8 := H8.ggl (show sml S v9 < 6 by omega)
          refine xo_f (by rw [c8]; decide) (xo_g al8.1 (xo_n al8.2.2.1 (xo_g mu8.1 (xo_n cu8.1.2 (xo_g mv8.1 (xo_n cv8.1.2 (xo_g H8.1.pk (xo_b (readElements_o (fr := 0) (n := nlS2 S u) (m := nlS2 S v9) (len := 8) H8.1 H8.2.2 (nxn_wk (nxn_wk wk 4) _) ⟨al8.2.2.2.1, al8.2.2.2.2, (by have := gv0.1.2; unfold nlS2; omega), by omega⟩ (fun j => by unfold rdA; omega) ⟨by omega, by omega⟩ ⟨ggu8.1, (H8.2.1.2.1 _ v0).1, by omega⟩ ⟨ggv8.1, (H8.2.1.2.1 _ v1).1, gv1.1.1, gv1.1.2, by omega⟩ gv0.1.2) (fun v h9 q9 => ?_)))))))))
          obtain ⟨w9, c9⟩ := q9
          have w9' : fW (bK W K P S) (bR W S) h8 h9 := w9.wide (fun a j q => by
            rcases q with q | q | q
            · exact Or.inl q
            · exact Or.inr (Or.inl q)
            · exact Or.inr (Or.inr (Or.inr (Or.inr ⟨h6, Or.inr q.1⟩)))) (fun a j q => q.elim)
          have w19k := w18k.trans w9'
          have w19 := w1.trans (fw_ka w19k)
          cases hM : eEl B (nlS2 S v9 - 1) (nxn B (nxn B t 4) (nuS S u)) (nlS2 S u) with
          | some er =>
            rw [hM] at c9
            exact xo_t c9.1 (jh2 _ ⟨fw_rd w19, er, by rw [eG, hM], c9.2⟩)
          | none =>
            rw [hM] at c9
            rw [hM] at eG
            obtain ⟨c9, sm9, k9, v9'⟩ := c9
            have l9 := H.1.fb w19
            have d9 := H.2.1.fb w19 ws g
            have cn9 : xi h9 (W + 7) 2 = nI (sna S) := d9.1 2 (by omega)
            refine xo_f (by rw [c9]; decide) (xo_g l9.wl.ka (xo_g l9.wl.ka ?_))
            rw [cn9, nI_s, eG]
            refine xo_wi (fun h10 e10 => xo_g (Or.inr rfl) (xo_v ⟨(fw_rd w19).trans (fw_i e10 (by unfold rdA; omega)), rfl, smP_t (smP_t (smP_t (smP_t (smP_t (smP_t (smP_t (smP_t sm1 c2.2.1) (smP_k u3 g3)) c4.2.1) (smP_k u5 g3)) (by rw [e7, e6]; exact ⟨rfl, rfl⟩)) sm8) sm9) ⟨e_o e10 (Or.inl (by omega)), e_o e10 (Or.inl (by omega))⟩, k9.fw (A := fun a j => a = W + 7) (R := noR) (fw_i e10 rfl) (fun j q => by omega), ?_⟩))
            refine CD_r d9 ws a0 b0 e10 (NQ_k (s := 2) n1 (by omega) g w19k) ⟨((w9.rn _ _).trans (w8.rn _ _)).trans r7.1, ((w9.rn _ _).trans (w8.rn _ _)).trans r7.2⟩ (fun a ha => ?_) (fun a ha => ?_)
            · have := v8 a ha
              rw [Nat.zero_add] at this
              rw [w9.i (fun q => by unfold eA at q; omega)]
              exact this
            · have := v9' a ha
              rwa [Nat.zero_add] at this
theorem readLine_o {A : PA} (H : SH h X W K P B (paZ A) (paT A) (paD A) (paK A)) (wa : WA B A) : xo (FX5_readLine E P h) (fun v h' => LPq h W K P B (eLine B A) (nLine B A) v h') := by
  obtain ⟨wk, ws, wt, nm⟩ := wa
  unfold FX5_readLine
  refine xo_g H.1.pk (xo_n H.1.pt (xo_g H.1.kk (xo_eb (spells_v H.1.kl wk H.2.2 (by omega) (by omega)) ?_)))
  have z : ∀ (v : Int32) (h' : XH) (e : ER) (A' : PA), LPq h W K P B e A' v h' → (v = 0 ∨ v = 1) := fun v h' e A' q => by
    cases e with
    | none => exact Or.inr q.2.1
    | some er => exact Or.inl q.2.1
  by_cases b2 : isW B (paK A) 2 = true
  · have e1 : eLine B A = eGl B (paZ A) (paK A) := if_pos b2
    have e2 : nLine B A = nGl B (paZ A) (paT A) (paD A) (paK A) := if_pos b2
    rw [b2, e1, e2]
    exact xo_f (by decide) (xo_g H.1.pk (xo_b (readGroup_o H ws nm wk) (fun v h' q => xo_g (z _ _ _ _ q) (xo_v q))))
  have b2' : isW B (paK A) 2 = false := by simpa using b2
  rw [b2']
  refine xo_t rfl (xo_g H.1.pk (xo_n H.1.pt (xo_g H.1.kk (xo_eb (spells_v H.1.kl wk H.2.2 (by omega) (by omega)) ?_))))
  by_cases b3 : isW B (paK A) 7 = true
  · have e1 : eLine B A = eMl B (paZ A) (paK A) := by unfold eLine; rw [if_neg b2, if_pos b3]
    have e2 : nLine B A = nMl B (paZ A) (paT A) (paD A) (paK A) := by unfold nLine; rw [if_neg b2, if_pos b3]
    rw [b3, e1, e2]
    exact xo_f (by decide) (xo_g H.1.pk (xo_b (readModule_o H ws nm wk) (fun v h' q => xo_g (z _ _ _ _ q) (xo_v q))))
  have b3' : isW B (paK A) 7 = false := by simpa using b3
  rw [b3']
  refine xo_t rfl (xo_g H.1.pk (xo_n H.1.pt (xo_g H.1.kk (xo_eb (spells_v H.1.kl wk H.2.2 (by omega) (by omega)) ?_))))
  by_cases b4 : isW B (paK A) 8 = true
  · have e1 : eLine B A = eAl B (paZ A) (paD A) (paK A) := by unfold eLine; rw [if_neg b2, if_neg b3, if_pos b4]
    have e2 : nLine B A = nAl B (paZ A) (paT A) (paD A) (paK A) := by unfold nLine; rw [if_neg b2, if_neg b3, if_pos b4]
    rw [b4, e1, e2]
    exact xo_f (by decide) (xo_g H.1.pk (xo_b (readAct_o H ws nm wk) (fun v h' q => xo_g (z _ _ _ _ q) (xo_v q))))
  have b4' : isW B (paK A) 8 = false := by simpa using b4
  rw [b4']
  refine xo_t rfl (xo_g H.1.pk (xo_n H.1.pt (xo_g H.1.kk (xo_eb (spells_v H.1.kl wk H.2.2 (by omega) (by omega)) ?_))))
  refine xo_jp (fun v h' => LPq h W K P B (eLine B A) (nLine B A) v h') (fun v h' q => xo_g (z _ _ _ _ q) (xo_v q)) (fun j jh => ?_)
  by_cases b5 : isW B (paK A) 9 = true
  · have e1 : eLine B A = eRl B (paZ A) (paK A) := by unfold eLine; rw [if_neg b2, if_neg b3, if_neg b4, if_pos b5]
    have e2 : nLine B A = nRl B (paZ A) (paT A) (paD A) (paK A) := by unfold nLine; rw [if_neg b2, if_neg b3, if_neg b4]
    rw [e1, e2] at jh
    rw [b5, e1, e2]
    exact xo_f (by decide) (xo_g H.1.pk (xo_b (readArrow_o H ws nm wk) (fun v h' q => jh _ _ q)))
  · have e1 : eLine B A = some (1, tkA (paK A)) := by unfold eLine; rw [if_neg b2, if_neg b3, if_neg b4, if_neg b5]
    have b5' : isW B (paK A) 9 = false := by simpa using b5
    rw [e1] at jh
    rw [b5', e1]
    exact xo_t rfl (xo_g H.1.pk (xo_b (refuse_s H 1) (fun v h' q => jh _ _ ⟨fw_rd (fw_ka q.2.1), q.1, q.2.2⟩)))
/-- where the end of a text stands -/
def tkE (B : BF) : PA := nLoop B 900 (A00 B)
theorem eLoop_s {f : Nat} {A : PA} (h : tkK (paK A) = 3) : eLoop B (f + 1) A = eo (eLine B (aNx B A)) (eLoop B f (nLine B (aNx B A))) := if_pos h
theorem nLoop_s {f : Nat} {A : PA} (h : tkK (paK A) = 3) : nLoop B (f + 1) A = nLoop B f (nLine B (aNx B A)) := if_pos h
theorem eLoop_e {f : Nat} {A : PA} (h : ¬ tkK (paK A) = 3) : eLoop B f A = none := by
  cases f with
  | zero => rfl
  | succ f => exact if_neg h
theorem nLoop_e {f : Nat} {A : PA} (h : ¬ tkK (paK A) = 3) : nLoop B f A = A := by
  cases f with
  | zero => rfl
  | succ f => exact if_neg h
/-- the empty state's data -/
theorem CD_0 (c : ∀ s, s < 3 → xi h (W + 1 + 3 * s) 2 = 0) (a : ∀ w, w < 3 → xi h (W + 13) w = 0) : CD h W S0 T0 (fun _ => 0) := by
  refine ⟨fun s hs => ?_, fun g hg => absurd hg (Nat.not_lt_zero _), fun m hm => absurd hm (Nat.not_lt_zero _), fun m hm => absurd hm (Nat.not_lt_zero _), a, fun s k hs hk => (S0_sc hk).elim⟩
  rw [c s hs]
  match s, hs with
  | 0, _ => rfl
  | 1, _ => rfl
  | 2, _ => rfl
theorem A00_wa (B : BF) : WA B (A00 B) := ⟨nx_wk (tkF_wk (Nat.zero_le _)), S0_ws, S0_wt, fun s k hs hk => (S0_sc hk).elim⟩
theorem readText_o (l : CL h X W K P B) (c : CD h W S0 T0 (fun _ => 0)) (ht : xi h K 3 = 0) : xo (FX5_readText E P h) (fun v h' => LPq h W K P B (eText B) (tkE B) v h') := by
  have wk0 : WK B (tkF B 0) := tkF_wk (Nat.zero_le _)
  unfold FX5_readText
  refine xo_g l.pk (xo_n l.pt (xo_g l.kk (xo_b (advance_o (p := 0) l.kl (by rw [ht]; rfl) (Nat.zero_le _)) (fun _ h1 q1 => ?_))))
  obtain ⟨w1, k1⟩ := q1
  have H1 : SH h1 X W K P B S0 T0 (fun _ => 0) (tkF B 0) := ⟨l.ft w1, c.fb (fw_tb w1) S0_ws l.1, k1⟩
  have wr1 : fW (rdA W K P) (rdR W) h h1 := w1.wide (fun a j q => Or.inl q) (fun a j q => q.elim)
  refine xo_g H1.1.pk (xo_n H1.1.pt (xo_g H1.1.kk (xo_eb (spells_v H1.1.kl wk0 k1 (by omega) (by omega)) ?_)))
  unfold eText
  cases b1 : isW B (tkF B 0) 1 with
  | false =>
    refine xo_t rfl (xo_g H1.1.pk (xo_b (refuse_s H1 1) (fun v h2 q => xo_g (Or.inl q.1) (xo_v ⟨wr1.trans (fw_rd (fw_ka q.2.1)), ?_⟩))))
    exact ⟨q.1, q.2.2⟩
  | true =>
    have e0 : ck (!true) 1 (tkF B 0) = none := rfl
    rw [e0, eo_n]
    refine xo_f (by decide) (xo_g H1.1.pk (xo_n H1.1.pt (xo_g H1.1.kk (xo_b (adv_s H1 S0_ws wk0) (fun _ h2 q2 => ?_)))))
    obtain ⟨w2, H2, u2⟩ := q2
    have nKP := l.1.1.2.2
    have wr2 := wr1.trans (fw_rd (fw_ka w2))
    have z : ∀ (v : Int32) (h' : XH) (e : ER) (A' : PA), LPq h W K P B e A' v h' → (v = 0 ∨ v = 1) := fun v h' e A' q => by
      cases e with
      | none => exact Or.inr q.2.1
      | some er => exact Or.inl q.2.1
    refine xlp_inv (Po := fun m => xo m _) (fun i s h' => s = nI i ∧ (fW (rdA W K P) (rdR W) h h' ∧ smP P h h') ∧ ∃ A, SH h' X W K P B (paZ A) (paT A) (paD A) (paK A) ∧ WA B A ∧ eLoop B 900 (A00 B) = eLoop B (900 - i) A ∧ nLoop B 900 (A00 B) = nLoop B (900 - i) A) 900 (by omega) (fun i s h3 ag hi I again => ?_) ⟨rfl, ⟨wr2, smP_t (smP_k w1 nKP) (smP_k u2 nKP)⟩, A00 B, H2, A00_wa B, rfl, rfl⟩
    obtain ⟨rfl, ⟨w3, sm3⟩, A, H3, wa, e1, e2⟩ := I
    refine xo_jh (fun h' => h' = h3 ∧ eLoop B 900 (A00 B) = none ∧ nLoop B 900 (A00 B) = A) (fun h' q => ?_) (fun j74 jh => ?_)
    · obtain ⟨rfl, q1, q2⟩ := q
      rw [q1, eo_n]
      unfold tkE
      rw [q2]
      have k4 := wa.1.2.2.2.2
      refine xo_g H3.1.pk (xo_n H3.1.pt (xo_g H3.1.kk ?_))
      rw [H3.2.2.1.2.2]
      refine xo_jp (fun v h4 => LPq h W K P B (ck (decide (tkK (paK A) ≠ 0)) 1 (paK A)) A v h4) (fun v h4 q => xo_g (z _ _ _ _ q) (xo_v q)) (fun j97 jh97 => ?_)
      refine xo_jh (fun h4 => h4 = h' ∧ tkK (paK A) = 0) (fun h4 q => ?_) (fun j92 jh92 => ?_)
      · obtain ⟨rfl, q⟩ := q
        refine jh97 _ _ ⟨w3, ?_⟩
        rw [q]
        exact ⟨rfl, sm3, H3.2.2, H3.2.1⟩
      · by_cases k0 : tkK (paK A) = 0
        · exact xo_t (by rw [k0]; rfl) (jh92 _ ⟨rfl, k0⟩)
        · refine xo_f (by rw [nI_eq0 (by omega)]; exact k0) (xo_g H3.1.pk (xo_b (refuse_s H3 1) (fun v h4 q => xo_t q.1 (jh97 _ _ ⟨w3.trans (fw_rd (fw_ka q.2.1)), ?_⟩))))
          have : ck (decide (tkK (paK A) ≠ 0)) 1 (paK A) = some (1, tkA (paK A)) := by
            unfold ck
            rw [if_pos (decide_eq_true k0)]
          rw [this]
          exact ⟨rfl, q.2.2⟩
    · by_cases e : i = 900
      · subst e
        refine xo_t (by decide) (jh _ ⟨rfl, ?_, ?_⟩)
        · rw [e1]; rfl
        · rw [e2]; rfl
      · refine xo_f (by rw [show (900 : Int32) = nI 900 from rfl, nI_leP (by omega) (by omega)]; omega) (xo_g H3.1.pk (xo_n H3.1.pt (xo_g H3.1.kk ?_)))
        rw [H3.2.2.1.2.2]
        have k4 := wa.1.2.2.2.2
        by_cases k3 : tkK (paK A) = 3
        · have ef : 900 - i = (900 - (i + 1)) + 1 := by omega
          rw [ef, eLoop_s k3] at e1
          rw [ef, nLoop_s k3] at e2
          refine xo_t (by rw [k3]; rfl) (xo_g H3.1.pk (xo_n H3.1.pt (xo_g H3.1.kk (xo_b (adv_s H3 wa.2.1 wa.1) (fun _ h4 q4 => ?_)))))
          obtain ⟨w4, H4, u4⟩ := q4
          have wa4 := aNx_wa wa
          refine xo_g H4.1.pk (xo_b (readLine_o (A := aNx B A) H4 wa4) (fun v h5 q5 => ?_))
          obtain ⟨w5, c5⟩ := q5
          have w35 := (w3.trans (fw_rd (fw_ka w4))).trans w5
          cases hE : eLine B (aNx B A) with
          | some er =>
            rw [hE] at c5 e1
            refine xo_t c5.1 (xo_g (Or.inl rfl) (xo_v ⟨w35, ?_⟩))
            rw [e1]
            exact ⟨rfl, c5.2⟩
          | none =>
            rw [hE] at c5 e1
            refine xo_f (by rw [c5.1]; decide) ?_
            rw [nI_s]
            exact again (by omega) _ _ ⟨rfl, ⟨w35, smP_t (smP_t sm3 (smP_k u4 nKP)) c5.2.1⟩, nLine B (aNx B A), ⟨l.fw w35 (fun a j q => q) (fun a j q => q), c5.2.2.2, c5.2.2.1⟩, nLine_wa wa4 hE, e1, e2⟩
        · refine xo_f (by rw [li3, nI_eqP (by omega) (by omega)]; exact k3) (jh _ ⟨rfl, ?_, ?_⟩)
          · rw [e1, eLoop_e k3]
          · rw [e2, nLoop_e k3]
end LINE
