/-! The class reads modules, acts, arrows. -/
set_option linter.unusedVariables false
section LINE
variable {E : XG} {h h' h1 h2 : XH} {X W K P : Nat} {B : BF} {t : TK} {S : SD} {T : ST} {D : Nat → Int32}
def sA (C : Nat) : Nat → Nat → Prop := fun a j => (a = C ∧ j = 6) ∨ a = C + 2
def sR (C : Nat) : Nat → Nat → Prop := fun a j => a = C ∧ (j = 1 ∨ j = 2)
theorem start_o {C U V : Nat} (l : ML h C) : xo (FX1_start E C U V h) (fun _ h' => fW (sA C) (sR C) h h' ∧ (xr h' C 1 = some U ∧ xr h' C 2 = some V) ∧ xi h' C 6 = 0 ∧ ∀ k, k < 64 → xi h' (C + 2) k = nI (k % 8)) := by
  obtain ⟨l1, l2, ⟨l3, l4, l5⟩, l6⟩ := l
  unfold FX1_start
  refine xo_g l1 (xo_wr (fun h1 e1 => ?_))
  have w1 : fW (sA C) (sR C) h h1 := fw_r e1 ⟨rfl, Or.inl rfl⟩
  refine xo_g ((w1.k _).trans l1) (xo_wr (fun h2 e2 => ?_))
  have w2 := w1.trans (fw_r (A := sA C) (R := sR C) e2 ⟨rfl, Or.inr rfl⟩)
  refine xo_g ((w2.k _).trans l1) (xo_wi (fun h3 e3 => ?_))
  have w3 := w2.trans (fw_i (A := sA C) (R := sR C) e3 (Or.inl ⟨rfl, rfl⟩))
  have r1 : xr h3 C 1 = some U := by
    rw [e3, xr_yi, e2, xr_yr, if_neg (fun q => by cases q.2), e1, xr_yr, if_pos ⟨rfl, rfl⟩]
  have r2 : xr h3 C 2 = some V := by
    rw [e3, xr_yi, e2, xr_yr, if_pos ⟨rfl, rfl⟩]
  have r3 : ∀ hh, fW (sA C) (sR C) h hh → xr hh C 4 = some (C + 2) := fun hh w => (w.r (fun q => by have := q.2; omega)).trans l3
  refine xlp_inv (Po := fun m => xo m _) (fun i s h' => s = nI i ∧ (fW (sA C) (sR C) h h' ∧ xr h' C 1 = some U ∧ xr h' C 2 = some V ∧ xi h' C 6 = 0) ∧ ∀ k, k < i → xi h' (C + 2) k = nI (k % 8)) 64 (by omega) (fun i s h' ag hi I again => ?_) ⟨rfl, ⟨w3, r1, r2, e_s e3⟩, fun k hk => absurd hk (Nat.not_lt_zero _)⟩
  obtain ⟨rfl, ⟨w, a1, a2, a3⟩, a4⟩ := I
  refine xo_g ((w.k _).trans l1) (xo_n (r3 _ w) (xo_g ((w.k _).trans l4) ?_))
  rw [(w.n _).trans l5]
  by_cases e : i = 64
  · subst e
    exact xo_t (Int32.le_refl _) (xo_v ⟨w, ⟨a1, a2⟩, a3, a4⟩)
  · refine xo_f (by rw [ofNat_nI, nI_leP (by omega) (by omega)]; omega) (xo_g ((w.k _).trans l1) (xo_n (r3 _ w) (xo_eb (fmodg_v 8 (by omega) (by omega) i (by omega)) (xo_g ⟨(w.k _).trans l4, by rw [(w.n _).trans l5]; exact xin_nI (by omega) (by omega)⟩ ?_))))
    rw [xz_nI (by omega), nI_s]
    refine xo_wi (fun h5 e5 => again (by omega) _ _ ⟨rfl, ⟨w.trans (fw_i e5 (Or.inr rfl)), ?_, ?_, ?_⟩, fun k hk => ?_⟩)
    · rw [e5]; exact a1
    · rw [e5]; exact a2
    · rw [e_o e5 (Or.inl (by omega))]; exact a3
    · by_cases z : k = i
      · rw [z]; exact e_s e5
      · rw [e_o e5 (Or.inr z)]; exact a4 k (by omega)
/-- a module more -/
theorem CD_m {w : List Nat} {u v : Nat} {f : Nat → Nat} (c : CD h1 W S T D) (ws : WS S) (hu : u < sng S) (hv : v < sng S) (e : h2 = yi h1 (W + 4) 2 (nI (snm S + 1))) (n : NQ h1 W S 1 w) (r : xr h1 (W + 32 + 8 * snm S) 1 = some (W + 14 + 3 * u) ∧ xr h1 (W + 32 + 8 * snm S) 2 = some (W + 14 + 3 * v)) (d : xi h1 (W + 32 + 8 * snm S) 6 = 0) (b : ∀ a, a < sgn S u → xi h1 (W + 32 + 8 * snm S + 1) a = nI (f a)) (q : ∀ k, k < 64 → xi h1 (W + 32 + 8 * snm S + 2) k = nI (k % 8)) : CD h2 W (sAm (sNm S 1 w) u v) ((fun m a => if m = snm S then f a else tbd T m a), (fun m g a => if m = snm S then a else tac T m g a), T.2.2) (fun m => if m = snm S then 0 else D m) := by
  obtain ⟨c1, c2, c3, c4, c5, c6⟩ := c
  obtain ⟨⟨w1, w2, w3⟩, w4, w5, w6⟩ := ws
  have o := fun m (hm : ¬ m = snm S) => sAm_o (S := sNm S 1 w) (u := u) (l := v) hm
  have nn := sAm_n (S := sNm S 1 w) (u := u) (l := v)
  have n1 : smu (sAm (sNm S 1 w) u v) (snm S) = u := nn.1
  have n2 : sml (sAm (sNm S 1 w) u v) (snm S) = v := nn.2
  have o1 : ∀ m, m < snm S → smu (sAm (sNm S 1 w) u v) m = smu S m := fun m hm => (o m (Nat.ne_of_lt hm)).1
  have o2 : ∀ m, m < snm S → sml (sAm (sNm S 1 w) u v) m = sml S m := fun m hm => (o m (Nat.ne_of_lt hm)).2
  have ou : ∀ m, m < snm S → nuS (sAm (sNm S 1 w) u v) m = nuS S m := fun m hm => congrArg (sgn S) (o1 m hm)
  have ol : ∀ m, m < snm S → nlS2 (sAm (sNm S 1 w) u v) m = nlS2 S m := fun m hm => congrArg (sgn S) (o2 m hm)
  have nu : nuS (sAm (sNm S 1 w) u v) (snm S) = sgn S u := congrArg (sgn S) n1
  have nl : nlS2 (sAm (sNm S 1 w) u v) (snm S) = sgn S v := congrArg (sgn S) n2
  have ne : ∀ a j, (¬ a = W + 4 ∨ ¬ j = 2) → xi h2 a j = xi h1 a j := fun a j z => e_o e z
  have nr : ∀ a j, xr h2 a j = xr h1 a j := fun a j => by rw [e]; rfl
  have nj : ∀ a j, xj h2 a j = xj h1 a j := fun a j => by rw [e]; rfl
  refine ⟨fun s hs => ?_, fun k hk => ⟨(ne _ _ (Or.inl (by omega))).trans (c2 k hk).1, fun a b ha hb => (ne _ _ (Or.inl (by omega))).trans ((c2 k hk).2 a b ha hb)⟩, fun m hm => ?_, fun a ha => ⟨⟨(nr _ _).trans (c4 a ha).1.1, (nr _ _).trans (c4 a ha).1.2⟩, fun x hx => ?_, fun x hx => ?_⟩, fun x hx => (ne _ _ (Or.inl (by omega))).trans (c5 x hx), fun s k hs hk => ?_⟩
  · rw [scn_am s hs]
    by_cases z : s = 1
    · rw [z, if_pos rfl]; exact e_s e
    · rw [if_neg z, ne _ _ (Or.inl (by omega))]; exact c1 s hs
  · have hm : m < snm S + 1 := hm
    show (xr h2 _ 1 = _ ∧ xr h2 _ 2 = _) ∧ xi h2 _ 6 = (if m = snm S then 0 else D m) ∧ (∀ a, a < nuS _ m → xi h2 _ a = nI (if m = snm S then f a else tbd T m a)) ∧ ∀ g a, g < nlS2 _ m → a < nuS _ m → xi h2 _ _ = nI (if m = snm S then a else tac T m g a)
    by_cases z : m = snm S
    · subst z
      rw [n1, n2, nr, nr, nu, nl]
      refine ⟨r, ?_, fun a ha => ?_, fun g a hg ha => ?_⟩
      · rw [if_pos rfl, ne _ _ (Or.inl (by omega))]; exact d
      · rw [if_pos rfl, ne _ _ (Or.inl (by omega))]; exact b a ha
      · have := (w4 u hu).1.2
        have := (w4 v hv).1.2
        rw [if_pos rfl, ne _ _ (Or.inl (by omega)), q _ (by omega), show (8 * g + a) % 8 = a by omega]
    · have hm : m < snm S := by omega
      rw [o1 m hm, o2 m hm, ou m hm, ol m hm, nr, nr]
      obtain ⟨d1, d2, d3, d4⟩ := c3 m hm
      refine ⟨d1, ?_, fun a ha => ?_, fun g a hg ha => ?_⟩
      · rw [if_neg z, ne _ _ (Or.inl (by omega))]; exact d2
      · rw [if_neg z, ne _ _ (Or.inl (by omega))]; exact d3 a ha
      · rw [if_neg z, ne _ _ (Or.inl (by omega))]; exact d4 g a hg ha
  · have hx : x < nuS (sAm (sNm S 1 w) u v) (saf S a) := hx
    rw [ou _ (w6 a ha).1] at hx
    exact (ne _ _ (Or.inl (by omega))).trans ((c4 a ha).2.1 x hx)
  · have hx : x < nlS2 (sAm (sNm S 1 w) u v) (saf S a) := hx
    rw [ol _ (w6 a ha).1] at hx
    exact (ne _ _ (Or.inl (by omega))).trans ((c4 a ha).2.2 x hx)
  · rw [scn_am s hs] at hk
    show xj h2 _ k = Int64.ofNat (pkN (if s = 1 ∧ k = scn S 1 then w else snn S s k)) ∧ xi h2 _ k = nI (if s = 1 ∧ k = scn S 1 then w else snn S s k).length
    by_cases z : s = 1 ∧ k = scn S 1
    · rw [if_pos z, nj, ne _ _ (Or.inl (by omega)), z.1, z.2]
      exact n
    · rw [if_neg z, nj, ne _ _ (Or.inl (by omega))]
      refine c6 s k hs ?_
      by_cases y : s = 1
      · rw [if_pos y] at hk
        subst y
        have : ¬ k = scn S 1 := fun x => z ⟨rfl, x⟩
        omega
      · rw [if_neg y] at hk; exact hk
theorem readModule_o (H : SH h X W K P B S T D t) (ws : WS S) (nm : WNm S) (wk : WK B t) : xo (FX5_readModule E P h) (fun v h' => LPq h W K P B (eMl B S t) (nMl B S T D t) v h') := by
  have lt := H.lt
  have g := H.1.1
  obtain ⟨⟨g1, g2, g3⟩, g4⟩ := H.1.1
  have wk2 := nxn_wk wk 2
  have wk3 := nxn_wk wk 3
  unfold FX5_readModule
  refine xo_g H.1.pk (xo_n H.1.pw (xo_g H.1.wk (xo_n H.1.wl.rm (xo_g H.1.pk (xo_b (readNewName_o H.1 H.2.1 ws nm H.2.2 wk (show 1 < 3 by omega)) (fun v h1 q1 => ?_))))))
  obtain ⟨w1, c1⟩ := q1
  have eG : eMl B S t = eo (eo (ck (decide (scn S 1 = mxS 1)) 4 t) (eNm B S 1 (nx B t))) (eo (eKn B S 0 (nxn B t 2)) (eo (eKn B S 0 (nxn B t 3)) (eEl B (sgn S (nmI S 0 (wdT B (nxn B t 3))) - 1) (nxn B t 4) (sgn S (nmI S 0 (wdT B (nxn B t 2))))))) := (eo_as _ _ _).symm
  rw [eG]
  refine xo_jh (fun h2 => fW (rdA W K P) (rdR W) h h2 ∧ ∃ er, eo (eo (ck (decide (scn S 1 = mxS 1)) 4 t) (eNm B S 1 (nx B t))) (eo (eKn B S 0 (nxn B t 2)) (eo (eKn B S 0 (nxn B t 3)) (eEl B (sgn S (nmI S 0 (wdT B (nxn B t 3))) - 1) (nxn B t 4) (sgn S (nmI S 0 (wdT B (nxn B t 2))))))) = some er ∧ xi h2 P 2 = nI er.1 ∧ xi h2 P 3 = nI er.2) (fun h2 q => ?_) (fun j30 jh => ?_)
  · obtain ⟨q1, er, q2, q3⟩ := q
    rw [q2]
    exact xo_g (Or.inl rfl) (xo_v ⟨q1, rfl, q3⟩)
  cases hE : eo (ck (decide (scn S 1 = mxS 1)) 4 t) (eNm B S 1 (nx B t)) with
  | some er =>
    rw [hE] at c1 jh
    exact xo_t c1.1 (jh _ ⟨fw_rd w1, er, rfl, c1.2⟩)
  | none =>
    rw [hE] at c1 jh
    obtain ⟨c1, sm1, h6, k1, n1⟩ := c1
    have h6 : snm S < 6 := h6
    rw [eo_n] at jh ⊢
    have H1 : SH h1 X W K P B S T D (nxn B t 2) := ⟨H.1.fb w1, H.2.1.fb w1 ws H.1.1, k1⟩
    refine xo_f (by rw [c1]; decide) (xo_g H1.1.pk (xo_n H1.1.pw (xo_g H1.1.wk (xo_n H1.1.wl.rn (xo_g H1.1.pk (xo_b (known_s H1 ws nm wk2 (show 0 < 3 by omega)) (fun v h2 q2 => ?_)))))))
    obtain ⟨w2, H2, c2⟩ := q2
    cases hF : eKn B S 0 (nxn B t 2) with
    | some er =>
      rw [hF] at c2 jh
      exact xo_t c2.1 (jh _ ⟨fw_rd (w1.trans (fw_ka w2)), er, rfl, c2.2⟩)
    | none =>
      rw [hF] at c2
      rw [eo_n]
      have a0 : nmI S 0 (wdT B (nxn B t 2)) < sng S := (eKn_0 hF).2
      refine xo_f (by rw [c2.1]; decide) (xo_g H2.1.pk (xo_eb (groupTold_v H2.1 H2.2.1 ws nm H2.2.2 wk2 hF) (xo_g H2.1.pk (xo_n H2.1.pt (xo_g H2.1.kk (xo_b (adv_s H2 ws wk2) (fun _ h3 q3 => ?_)))))))
      obtain ⟨w3, H3, u3⟩ := q3
      have H3 : SH h3 X W K P B S T D (nxn B t 3) := H3
      refine xo_g H3.1.pk (xo_n H3.1.pw (xo_g H3.1.wk (xo_n H3.1.wl.rn (xo_g H3.1.pk (xo_b (known_s H3 ws nm wk3 (show 0 < 3 by omega)) (fun v h4 q4 => ?_))))))
      obtain ⟨w4, H4, c4⟩ := q4
      have w14 := w1.trans (fw_ka ((w2.trans w3).trans w4))
      cases hG : eKn B S 0 (nxn B t 3) with
      | some er =>
        rw [hG] at c4
        exact xo_t c4.1 (xo_g (Or.inl rfl) (xo_v ⟨fw_rd w14, rfl, c4.2⟩))
      | none =>
        rw [hG] at c4
        rw [eo_n]
        have b0 : nmI S 0 (wdT B (nxn B t 3)) < sng S := (eKn_0 hG).2
        refine xo_f (by rw [c4.1]; decide) (xo_g H4.1.pk (xo_eb (groupTold_v H4.1 H4.2.1 ws nm H4.2.2 wk3 hG) ?_))
        unfold nMl
        generalize hu : nmI S 0 (wdT B (nxn B t 2)) = u at *
        generalize hv : nmI S 0 (wdT B (nxn B t 3)) = v9 at *
        have gu := ws.2.1 u a0
        have gv := ws.2.1 v9 b0
        have g6 := ws.1.1
        refine xo_g H4.1.pk (xo_n H4.1.pt (xo_g H4.1.kk (xo_b (adv_s H4 ws wk3) (fun _ h5 q5 => ?_))))
        obtain ⟨w5, H5, u5⟩ := q5
        have H5 : SH h5 X W K P B S T D (nxn B t 4) := H5
        have w0 := H5.1.wl
        have cn : xi h5 (W + 4) 2 = nI (snm S) := H5.2.1.1 1 (by omega)
        have mlm := (w0.2.2.2.1 (snm S) h6).2
        refine xo_g H5.1.pk (xo_n H5.1.pw (xo_g H5.1.wk (xo_n w0.r11 (xo_g w0.km ?_))))
        rw [cn]
        refine xo_g ⟨w0.k11, by rw [w0.n11]; exact xin_nI h6 (by omega)⟩ (xo_n (w0.m h6) (xo_g mlm.1 (xo_b (start_o mlm) (fun _ h6' q6 => ?_))))
        obtain ⟨w6, r6, d6, a6⟩ := q6
        have w6' : fW (bK W K P S) (bR W S) h5 h6' := w6.wide (fun a j q => Or.inr (Or.inr (Or.inr (Or.inl ⟨h6, by unfold sA at q; omega⟩)))) (fun a j q => Or.inl ⟨h6, q⟩)
        have H6 : SH h6' X W K P B S T D (nxn B t 4) := H5.fb w6' ws (H5.2.2.fw w6 (fun j q => by unfold sA at q; omega))
        have ml6 := (H6.1.wl.2.2.2.1 (snm S) h6).2
        have ggu := H6.ggl (show u < 6 by omega)
        have ggv := H6.ggl (show v9 < 6 by omega)
        refine xo_g ml6.1 (xo_n ml6.2.1.1 (xo_g H6.1.pk (xo_b (readElements_o (fr := 0) (n := sgn S u) (m := sgn S v9) (len := 8) H6.1 H6.2.2 (nxn_wk wk 4) ⟨ml6.2.1.2.1, ml6.2.1.2.2, by omega, by omega⟩ (fun j => by unfold rdA; omega) ⟨by omega, by omega⟩ ⟨ggu.1, (H6.2.1.2.1 u a0).1, by omega⟩ ⟨ggv.1, (H6.2.1.2.1 v9 b0).1, gv.1.1, gv.1.2, by omega⟩ gu.1.2) (fun v h7 q7 => ?_))))
        obtain ⟨w7, c7⟩ := q7
        have w7' : fW (bK W K P S) (bR W S) h6' h7 := w7.wide (fun a j q => by
          rcases q with q | q | q
          · exact Or.inl q
          · exact Or.inr (Or.inl q)
          · exact Or.inr (Or.inr (Or.inr (Or.inl ⟨h6, Or.inr (Or.inl q.1)⟩)))) (fun a j q => q.elim)
        have w17k : fW (bK W K P S) (bR W S) h1 h7 := ((((w2.trans w3).trans w4).trans w5).trans w6').trans w7'
        have w17 := w1.trans (fw_ka w17k)
        cases hL : eEl B (sgn S v9 - 1) (nxn B t 4) (sgn S u) with
        | some er =>
          rw [hL] at c7
          exact xo_t c7.1 (xo_g (Or.inl rfl) (xo_v ⟨fw_rd w17, rfl, c7.2⟩))
        | none =>
          rw [hL] at c7
          obtain ⟨c7, sm7, k7, v7⟩ := c7
          have l7 := H.1.fb w17
          have d7 := H.2.1.fb w17 ws g
          have cn7 : xi h7 (W + 4) 2 = nI (snm S) := d7.1 1 (by omega)
          refine xo_f (by rw [c7]; decide) (xo_g l7.wl.km (xo_g l7.wl.km ?_))
          rw [cn7, nI_s]
          refine xo_wi (fun h8 e8 => xo_g (Or.inr rfl) (xo_v ⟨(fw_rd w17).trans (fw_i e8 (by unfold rdA; omega)), rfl, smP_t (smP_t (smP_t (smP_t (smP_t (smP_t (smP_t sm1 c2.2.1) (smP_k u3 g3)) c4.2.1) (smP_k u5 g3)) (smP_fw w6 (fun q => by unfold sA at q; omega) (fun q => by unfold sA at q; omega))) sm7) ⟨e_o e8 (Or.inl (by omega)), e_o e8 (Or.inl (by omega))⟩, k7.fw (A := fun a j => a = W + 4) (R := noR) (fw_i e8 rfl) (fun j q => by omega), ?_⟩))
          refine CD_m d7 ws a0 b0 e8 (NQ_k (s := 1) n1 (by omega) g w17k) ⟨(w7.rn _ _).trans r6.1, (w7.rn _ _).trans r6.2⟩ ((w7.i (fun q => by unfold eA at q; omega)).trans d6) (fun a ha => ?_) (fun k hk => (w7.i (fun q => by unfold eA at q; omega)).trans (a6 k hk))
          have := v7 a ha
          rwa [Nat.zero_add] at this
/-- an act line -/
theorem CD_a {m g : Nat} {f : Nat → Nat} {A : Nat → Nat → Prop} (c : CD h1 W S T D) (ws : WS S) (hm : m < snm S) (hg : g < nlS2 S m) (w : fW A noR h1 h2) (hA : ∀ a j, A a j → (W + 104 ≤ a ∨ (a = W + 32 + 8 * m ∧ j = 6) ∨ (a = W + 32 + 8 * m + 2 ∧ 8 * g ≤ j ∧ j < 8 * g + nuS S m))) (d : xi h2 (W + 32 + 8 * m) 6 = D m ||| sh g) (q : ∀ a, a < nuS S m → xi h2 (W + 32 + 8 * m + 2) (8 * g + a) = nI (f a)) : CD h2 W S (tbd T, (fun m' g' a => if m' = m ∧ g' = g then f a else tac T m' g' a), T.2.2) (fun m' => if m' = m then D m' ||| sh g else D m') := by
  obtain ⟨c1, c2, c3, c4, c5, c6⟩ := c
  obtain ⟨⟨w1, w2, w3⟩, w4, w5, w6⟩ := ws
  have ne : ∀ a j, (a < W + 104 ∧ (¬ a = W + 32 + 8 * m ∨ ¬ j = 6) ∧ (¬ a = W + 32 + 8 * m + 2 ∨ j < 8 * g ∨ 8 * g + nuS S m ≤ j)) → xi h2 a j = xi h1 a j ∧ xj h2 a j = xj h1 a j := fun a j z => ⟨w.i (fun y => by have := hA a j y; omega), w.j (fun y => by have := hA a j y; omega)⟩
  refine ⟨fun s hs => (ne _ _ (by omega)).1.trans (c1 s hs), fun k hk => ⟨(ne _ _ (by omega)).1.trans (c2 k hk).1, fun a b ha hb => (ne _ _ (by omega)).1.trans ((c2 k hk).2 a b ha hb)⟩, fun m' hm' => ?_, fun a ha => ⟨⟨(w.rn _ _).trans (c4 a ha).1.1, (w.rn _ _).trans (c4 a ha).1.2⟩, fun x hx => (ne _ _ (by omega)).1.trans ((c4 a ha).2.1 x hx), fun x hx => (ne _ _ (by omega)).1.trans ((c4 a ha).2.2 x hx)⟩, fun x hx => (ne _ _ (by omega)).1.trans (c5 x hx), fun s k hs hk => ⟨(ne _ _ (by omega)).2.trans (c6 s k hs hk).1, (ne _ _ (by omega)).1.trans (c6 s k hs hk).2⟩⟩
  obtain ⟨d1, d2, d3, d4⟩ := c3 m' hm'
  refine ⟨⟨(w.rn _ _).trans d1.1, (w.rn _ _).trans d1.2⟩, ?_, fun a ha => (ne _ _ (by omega)).1.trans (d3 a ha), fun g' a hg' ha => ?_⟩
  · show _ = if m' = m then D m' ||| sh g else D m'
    by_cases z : m' = m
    · rw [if_pos z, z]; exact d
    · rw [if_neg z]; exact (ne _ _ (by omega)).1.trans d2
  · show _ = nI (if m' = m ∧ g' = g then f a else tac T m' g' a)
    have u8 := (w4 _ (w5 m' hm').1).1.2
    have ha8 : a < 8 := Nat.lt_of_lt_of_le ha u8
    by_cases z : m' = m ∧ g' = g
    · rw [if_pos z, z.1, z.2]
      rw [z.1] at ha
      exact q a ha
    · rw [if_neg z]
      have u8' : nuS S m ≤ 8 := (w4 _ (w5 m hm).1).1.2
      exact (ne _ _ (by omega)).1.trans (d4 g' a hg' ha)
theorem readAct_o (H : SH h X W K P B S T D t) (ws : WS S) (nm : WNm S) (wk : WK B t) : xo (FX5_readAct E P h) (fun v h' => LPq h W K P B (eAl B S D t) (nAl B S T D t) v h') := by
  have lt := H.lt
  have g := H.1.1
  obtain ⟨⟨g1, g2, g3⟩, g4⟩ := H.1.1
  have wk1 := nx_wk wk
  have wk2 := nxn_wk wk 2
  have m6 := ws.1.2.1
  unfold FX5_readAct
  refine xo_g H.1.pk (xo_n H.1.pt (xo_g H.1.kk (xo_b (adv_s H ws wk) (fun _ h1 q1 => ?_))))
  obtain ⟨w1, H1, u1⟩ := q1
  refine xo_g H1.1.pk (xo_n H1.1.pw (xo_g H1.1.wk (xo_n H1.1.wl.rm (xo_g H1.1.pk (xo_b (known_s H1 ws nm wk1 (show 1 < 3 by omega)) (fun v h2 q2 => ?_))))))
  obtain ⟨w2, H2, c2⟩ := q2
  unfold eAl
  cases hE : eKn B S 1 (nx B t) with
  | some er =>
    rw [hE] at c2
    exact xo_t c2.1 (xo_g (Or.inl rfl) (xo_v ⟨fw_rd (fw_ka (w1.trans w2)), rfl, c2.2⟩))
  | none =>
    rw [hE] at c2
    rw [eo_n]
    have a0 : mAl B S t < snm S := (eKn_0 hE).2
    refine xo_f (by rw [c2.1]; decide) (xo_g H2.1.pk (xo_eb (moduleTold_v H2.1 H2.2.1 ws nm H2.2.2 wk1 hE) (xo_g H2.1.pk (xo_n H2.1.pt (xo_g H2.1.kk (xo_b (adv_s H2 ws wk1) (fun _ h3 q3 => ?_)))))))
    obtain ⟨w3, H3, u3⟩ := q3
    have H3 : SH h3 X W K P B S T D (nxn B t 2) := H3
    show xo _ (fun v h' => LPq h W K P B (eo (eNu B 0 (nlS2 S (mAl B S t) - 1) (nxn B t 2)) _) _ v h')
    unfold nAl
    show xo _ (fun v h' => LPq h W K P B _ (nxn B (nxn B t 3) (nuS S (mAl B S t)), S, _, _) v h')
    rw [show nmI S 1 (wdT B (nx B t)) = mAl B S t from rfl]
    generalize mAl B S t = m at *
    obtain ⟨u0, v0⟩ := ws.2.2.1 m a0
    have gu := ws.2.1 _ u0
    have gv := ws.2.1 _ v0
    have g6 := ws.1.1
    have gu8 : nuS S m ≤ 8 := gu.1.2
    have gv8 : nlS2 S m ≤ 8 := gv.1.2
    have gu0 : 0 < nuS S m := gu.1.1
    have gv0 : 0 < nlS2 S m := gv.1.1
    have ml3 := (H3.1.wl.2.2.2.1 m (by omega)).2
    have cm3 := H3.2.1.2.2.1 m a0
    have ggv3 := H3.ggl (show sml S m < 6 by omega)
    have ev : xi h3 (W + 14 + 3 * sml S m) 3 = nI (nlS2 S m) := (H3.2.1.2.1 _ v0).1
    refine xo_g ml3.1 (xo_n cm3.1.2 (xo_g ggv3.1 (xo_g H3.1.pk ?_)))
    rw [ev, nI_p _ (by omega) gv0]
    refine xo_b (number_s (lo := 0) H3 ws wk2 (by omega) (by omega)) (fun v h4 q4 => ?_)
    obtain ⟨w4, H4, c4⟩ := q4
    have w14 := ((w1.trans w2).trans w3).trans w4
    cases hF : eNu B 0 (nlS2 S m - 1) (nxn B t 2) with
    | some er =>
      rw [hF] at c4
      exact xo_t c4.1 (xo_g (Or.inl rfl) (xo_v ⟨fw_rd (fw_ka w14), rfl, c4.2⟩))
    | none =>
      rw [hF] at c4
      rw [eo_n]
      obtain ⟨n1, -, n3⟩ := eNu_0 hF
      have ml4 := (H4.1.wl.2.2.2.1 m (by omega)).2
      have cm4 := H4.2.1.2.2.1 m a0
      refine xo_f (by rw [c4.1]; decide) (xo_g H4.1.pk (xo_n H4.1.pt (xo_g H4.1.kk (xo_lt (xo_g ml4.1 ?_)))))
      rw [H4.2.2.2.2 n1, cm4.2.1]
      generalize hgd : vlT B (nxn B t 2) = gd at *
      refine xo_eb (FX8_isIn_v (D m) (show gd < 32 by omega)) ?_
      cases hB : mb (D m) gd with
      | true =>
        have e : ck true 3 (nxn B t 2) = some (3, tkA (nxn B t 2)) := rfl
        rw [e]
        exact xo_f (by decide) (xo_g H4.1.pk (xo_b (refuse_s H4 3) (fun v h5 q => xo_g (Or.inl q.1) (xo_v ⟨fw_rd (fw_ka (w14.trans q.2.1)), q.1, q.2.2⟩))))
      | false =>
        have e : ck false 3 (nxn B t 2) = none := rfl
        rw [e, eo_n]
        refine xo_t rfl (xo_g ml4.1 (xo_g ml4.1 ?_))
        rw [cm4.2.1]
        refine xo_wi (fun h5 e5 => ?_)
        have w5 : fW (rdA W K P) (rdR W) h4 h5 := fw_i e5 (by unfold rdA; omega)
        have l5 := H4.1.fw w5 (fun a j q => q) (fun a j q => q)
        have k5 : KT h5 K B (nxn B t 2) := H4.2.2.fw (A := fun a j => a = W + 32 + 8 * m) (R := noR) (fw_i e5 rfl) (fun j q => by omega)
        refine xo_g l5.pk (xo_n l5.pt (xo_g l5.kk (xo_b (adv_o l5.kl wk2 k5) (fun _ h6' q6 => ?_))))
        obtain ⟨w6, k6⟩ := q6
        have k6 : KT h6' K B (nxn B t 3) := k6
        have l6 := l5.ft w6
        have v6 : fW (fun a j => (a = K ∧ 2 ≤ j) ∨ (a = W + 32 + 8 * m ∧ j = 6)) noR h4 h6' := (fw_i (R := noR) (A := fun a j => (a = K ∧ 2 ≤ j) ∨ (a = W + 32 + 8 * m ∧ j = 6)) e5 (Or.inr ⟨rfl, rfl⟩)).trans (w6.wide (fun a j q => Or.inl q) (fun a j q => q))
        have ml6 := (l6.wl.2.2.2.1 m (by omega)).2
        have ggu6 := (l6.wl.2.2.1 (smu S m) (by omega)).2
        have eu : xi h6' (W + 14 + 3 * smu S m) 3 = nI (nuS S m) := (v6.i (fun q => by omega)).trans (H4.2.1.2.1 _ u0).1
        have ru : xr h6' (W + 32 + 8 * m) 1 = some (W + 14 + 3 * smu S m) := (v6.rn _ _).trans cm4.1.1
        refine xo_g ml6.1 (xo_n ml6.2.2.1.1 (xo_g ml6.1 (xo_n ru (xo_g ml6.1 (xo_n ru (xo_g l6.pk ?_))))))
        rw [li8, nI_m]
        refine xo_b (readElements_o (fr := gd * 8) (n := nuS S m) (m := nuS S m) (len := 64) l6 k6 (nxn_wk wk 3) ⟨ml6.2.2.1.2.1, ml6.2.2.1.2.2, by omega, by omega⟩ (fun j => by unfold rdA; omega) ⟨by omega, by omega⟩ ⟨ggu6.1, eu, by omega⟩ ⟨ggu6.1, eu, gu0, gu8, by omega⟩ gu8) (fun v h7 q7 => ?_)
        obtain ⟨w7, c7⟩ := q7
        have w7r : fW (rdA W K P) (rdR W) h6' h7 := w7.wide (fun a j q => by
          rcases q with q | q | q
          · exact Or.inl q
          · exact Or.inr (Or.inl q)
          · unfold rdA; omega) (fun a j q => q.elim)
        have w6r : fW (rdA W K P) (rdR W) h5 h6' := w6.wide (fun a j q => Or.inl q) (fun a j q => q.elim)
        have wAll : fW (rdA W K P) (rdR W) h h7 := (((fw_rd (fw_ka w14)).trans w5).trans w6r).trans w7r
        have v7 : fW (fun a j => (W + 104 ≤ a ∨ (a = W + 32 + 8 * m ∧ j = 6) ∨ (a = W + 32 + 8 * m + 2 ∧ 8 * gd ≤ j ∧ j < 8 * gd + nuS S m))) noR h4 h7 := (v6.wide (fun a j q => by omega) (fun a j q => q)).trans (w7.wide (fun a j q => by unfold eA at q; omega) (fun a j q => q))
        cases hL : eEl B (nuS S m - 1) (nxn B t 3) (nuS S m) with
        | some er =>
          rw [hL] at c7
          exact xo_g (Or.inl c7.1) (xo_v ⟨wAll, c7.1, c7.2⟩)
        | none =>
          rw [hL] at c7
          obtain ⟨c7, sm7, k7, v8⟩ := c7
          refine xo_g (Or.inr c7) (xo_v ⟨wAll, c7, smP_t (smP_t (smP_t (smP_t (smP_t (smP_t (smP_k u1 g3) c2.2.1) (smP_k u3 g3)) c4.2.1) ⟨e_o e5 (Or.inl (by omega)), e_o e5 (Or.inl (by omega))⟩) (smP_k w6 g3)) sm7, k7, ?_⟩)
          refine CD_a H4.2.1 ws a0 (show gd < nlS2 S m by omega) v7 (fun a j q => q) ?_ (fun a ha => ?_)
          · rw [w7.i (fun q => by unfold eA at q; omega), w6.i (fun q => by have := q.1; omega), e_s e5]
            rfl
          · have := v8 a ha
            rwa [Nat.mul_comm gd 8] at this
/-- an arrow more -/
theorem CD_r {w : List Nat} {u v : Nat} {f f2 : Nat → Nat} (c : CD h1 W S T D) (ws : WS S) (hu : u < snm S) (hv : v < snm S) (e : h2 = yi h1 (W + 7) 2 (nI (sna S + 1))) (n : NQ h1 W S 2 w) (r : xr h1 (W + 80 + 3 * sna S) 0 = some (W + 32 + 8 * u) ∧ xr h1 (W + 80 + 3 * sna S) 1 = some (W + 32 + 8 * v)) (b : ∀ a, a < nuS S u → xi h1 (W + 80 + 3 * sna S + 1) a = nI (f a)) (q : ∀ a, a < nlS2 S u → xi h1 (W + 80 + 3 * sna S + 2) a = nI (f2 a)) : CD h2 W (sAa (sNm S 2 w) u v) (tbd T, tac T, (fun a x => if a = sna S then f x else ttp T a x), (fun a x => if a = sna S then f2 x else tbt T a x), tcc T) D := by
  obtain ⟨c1, c2, c3, c4, c5, c6⟩ := c
  obtain ⟨⟨w1, w2, w3⟩, w4, w5, w6⟩ := ws
  have o := fun m (hm : ¬ m = sna S) => sAa_o (S := sNm S 2 w) (u := u) (l := v) hm
  have nn := sAa_n (S := sNm S 2 w) (u := u) (l := v)
  have n1 : saf (sAa (sNm S 2 w) u v) (sna S) = u := nn.1
  have n2 : sao (sAa (sNm S 2 w) u v) (sna S) = v := nn.2
  have o1 : ∀ m, m < sna S → saf (sAa (sNm S 2 w) u v) m = saf S m := fun m hm => (o m (Nat.ne_of_lt hm)).1
  have o2 : ∀ m, m < sna S → sao (sAa (sNm S 2 w) u v) m = sao S m := fun m hm => (o m (Nat.ne_of_lt hm)).2
  have ne : ∀ a j, (¬ a = W + 7 ∨ ¬ j = 2) → xi h2 a j = xi h1 a j := fun a j z => e_o e z
  have nr : ∀ a j, xr h2 a j = xr h1 a j := fun a j => by rw [e]; rfl
  have nj : ∀ a j, xj h2 a j = xj h1 a j := fun a j => by rw [e]; rfl
  refine ⟨fun s hs => ?_, fun k hk => ⟨(ne _ _ (Or.inl (by omega))).trans (c2 k hk).1, fun a b ha hb => (ne _ _ (Or.inl (by omega))).trans ((c2 k hk).2 a b ha hb)⟩, fun m hm => ⟨⟨(nr _ _).trans (c3 m hm).1.1, (nr _ _).trans (c3 m hm).1.2⟩, (ne _ _ (Or.inl (by omega))).trans (c3 m hm).2.1, fun a ha => (ne _ _ (Or.inl (by omega))).trans ((c3 m hm).2.2.1 a ha), fun g a hg ha => (ne _ _ (Or.inl (by omega))).trans ((c3 m hm).2.2.2 g a hg ha)⟩, fun a ha => ?_, fun x hx => (ne _ _ (Or.inl (by omega))).trans (c5 x hx), fun s k hs hk => ?_⟩
  · rw [scn_aa s hs]
    by_cases z : s = 2
    · rw [z, if_pos rfl]; exact e_s e
    · rw [if_neg z, ne _ _ (Or.inl (by omega))]; exact c1 s hs
  · have ha : a < sna S + 1 := ha
    show (xr h2 _ 0 = _ ∧ xr h2 _ 1 = _) ∧ (∀ x, x < nuS S (saf _ a) → xi h2 _ x = nI (if a = sna S then f x else ttp T a x)) ∧ ∀ x, x < nlS2 S (saf _ a) → xi h2 _ x = nI (if a = sna S then f2 x else tbt T a x)
    by_cases z : a = sna S
    · subst z
      rw [n1, n2, nr, nr]
      refine ⟨r, fun x hx => ?_, fun x hx => ?_⟩
      · rw [if_pos rfl, ne _ _ (Or.inl (by omega))]; exact b x hx
      · rw [if_pos rfl, ne _ _ (Or.inl (by omega))]; exact q x hx
    · have ha : a < sna S := by omega
      rw [o1 a ha, o2 a ha, nr, nr]
      obtain ⟨d1, d2, d3⟩ := c4 a ha
      refine ⟨d1, fun x hx => ?_, fun x hx => ?_⟩
      · rw [if_neg z, ne _ _ (Or.inl (by omega))]; exact d2 x hx
      · rw [if_neg z, ne _ _ (Or.inl (by omega))]; exact d3 x hx
  · rw [scn_aa s hs] at hk
    show xj h2 _ k = Int64.ofNat (pkN (if s = 2 ∧ k = scn S 2 then w else snn S s k)) ∧ xi h2 _ k = nI (if s = 2 ∧ k = scn S 2 then w else snn S s k).length
    by_cases z : s = 2 ∧ k = scn S 2
    · rw [if_pos z, nj, ne _ _ (Or.inl (by omega)), z.1, z.2]
      exact n
    · rw [if_neg z, nj, ne _ _ (Or.inl (by omega))]
      refine c6 s k hs ?_
      by_cases y : s = 2
      · rw [if_pos y] at hk
        subst y
        have : ¬ k = scn S 2 := fun x => z ⟨rfl, x⟩
        omega
      · rw [if_neg y] at hk; exact hk
end LINE
