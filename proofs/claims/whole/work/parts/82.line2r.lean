/-! The reference reads acts, arrows, a line, a text. -/
set_option linter.unusedVariables false
section RLI
variable {E : XG} {h h' h1 h2 : XH} {Y i g0 : Nat} {B : BF} {t : TK} {er : ER} {S : SD} {T : ST} {D : Nat → Int32} {A : Nat → Nat → Prop}
/-- an act told -/
theorem RQ_a {m g : Nat} {f : Nat → Nat} (c : RQy h1 Y S T D) (ws : WS S) (hm : m < snm S) (hg : g < nlS2 S m) (w : fW (fun a j => oY Y a j ∨ (a = Y + 12 ∧ 48 + 64 * m + 8 * g ≤ j ∧ j < 48 + 64 * m + 8 * g + nuS S m) ∨ (a = Y + 20 ∧ j = m)) noR h1 h2) (d : xi h2 (Y + 20) m = D m ||| sh g) (q : ∀ a, a < nuS S m → xi h2 (Y + 12) (48 + 64 * m + 8 * g + a) = nI (f a)) : RQy h2 Y S (tbd T, (fun m' g' a => if m' = m ∧ g' = g then f a else tac T m' g' a), T.2.2) (fun m' => if m' = m then D m' ||| sh g else D m') := by
  obtain ⟨⟨c1, c2, c3⟩, c4, c5, c6, c7, c8⟩ := c
  obtain ⟨⟨w1, w2, w3⟩, w4, w5, w6⟩ := ws
  have n8 : ∀ m, m < snm S → nuS S m ≤ 8 ∧ nlS2 S m ≤ 8 := fun m hm => ⟨(w4 _ (w5 m hm).1).1.2, (w4 _ (w5 m hm).2).1.2⟩
  have nm := n8 m hm
  have ne : ∀ a j, (¬ a = Y ∨ j < 21 ∨ 26 < j) → (¬ a = Y + 12 ∨ j < 48 + 64 * m + 8 * g ∨ 48 + 64 * m + 8 * g + nuS S m ≤ j) → (¬ a = Y + 20 ∨ ¬ j = m) → xi h2 a j = xi h1 a j := fun a j z1 z2 z3 => w.i (fun z => by unfold oY at z; omega)
  refine ⟨⟨(ne _ _ (by omega) (by omega) (by omega)).trans c1, (ne _ _ (by omega) (by omega) (by omega)).trans c2, (ne _ _ (by omega) (by omega) (by omega)).trans c3⟩, fun k hk => ⟨(ne _ _ (by omega) (by omega) (by omega)).trans (c4 k hk).1, fun a b ha hb => (ne _ _ (by omega) (by omega) (by omega)).trans ((c4 k hk).2 a b ha hb)⟩, fun m' hm' => ⟨(ne _ _ (by omega) (by omega) (by omega)).trans (c5 m' hm').1, (ne _ _ (by omega) (by omega) (by omega)).trans (c5 m' hm').2.1, ?_⟩, fun a ha => ⟨(ne _ _ (by omega) (by omega) (by omega)).trans (c6 a ha).1, (ne _ _ (by omega) (by omega) (by omega)).trans (c6 a ha).2⟩, ⟨fun m' a q1 q2 => ?_, fun m' g' a q1 q2 q3 => ?_, fun a x q1 q2 => ?_, fun a x q1 q2 => ?_, fun x q1 => (ne _ _ (by omega) (by omega) (by omega)).trans (c7.2.2.2.2 x q1)⟩, fun s hs k i hk hi => (ne _ _ (by omega) (by omega) (by omega)).trans (c8 s hs k i hk hi)⟩
  · show _ = if m' = m then D m' ||| sh g else D m'
    by_cases z : m' = m
    · rw [if_pos z, z]; exact d
    · rw [if_neg z]; exact (ne _ _ (by omega) (by omega) (by omega)).trans (c5 m' hm').2.2
  · have := n8 m' q1
    exact (ne _ _ (by omega) (by omega) (by omega)).trans (c7.1 m' a q1 q2)
  · have k8 := n8 m' q1
    show _ = nI (if m' = m ∧ g' = g then f a else tac T m' g' a)
    by_cases z : m' = m ∧ g' = g
    · rw [if_pos z, z.1, z.2, Nat.zero_add]
      rw [z.1] at q3
      exact q a q3
    · rw [if_neg z]
      exact (ne _ _ (by omega) (by omega) (by omega)).trans (c7.2.1 m' g' a q1 q2 q3)
  · have := n8 _ (w6 a q1).1
    exact (ne _ _ (by omega) (by omega) (by omega)).trans (c7.2.2.1 a x q1 q2)
  · have := n8 _ (w6 a q1).1
    exact (ne _ _ (by omega) (by omega) (by omega)).trans (c7.2.2.2.1 a x q1 q2)
theorem actLine_o (H : RSy h Y B none t (fun h => RQy h Y S T D)) (ws : WS S) (nm : WNm S) : xo (FX9_actLine E Y h) (fun _ h' => LR h Y B (eAl B S D t) (nAl B S T D t) h') := by
  have c0 := H.2.2.2
  have m6 := ws.1.2.1
  have g6 := ws.1.1
  have Qo : StA (oY Y) (fun h => RQy h Y S T D) := StA_o (RQ_c ws)
  unfold FX9_actLine
  refine xo_g H.y.1 (xo_b (goesOn_s H Qo) (fun _ h1 q => ?_))
  obtain ⟨w1, H1⟩ := q
  have e1 : xi h1 Y 36 = nI (snm S) := (w1.i (fun q => by unfold oY at q; omega)).trans c0.1.2.1
  refine xo_g H1.y.1 (xo_g H1.y.1 ?_)
  rw [e1]
  refine xo_b (takesName_s (s := 1) H1 Qo ws nm (by omega) (fun h' q => q.2.2.2.2.2 1 (by omega))) (fun v2 h3 q => ?_)
  obtain ⟨w3, H3, ev⟩ := q
  rw [eo_n] at H3 ev
  have H3 : RSy h3 Y B (eKn B S 1 (nx B t)) (nxn B t 2) (fun h => RQy h Y S T D) := H3
  have w13 := w1.trans w3
  unfold eAl
  refine xo_g H3.y.1 ?_
  cases hE : eKn B S 1 (nx B t) with
  | some e =>
    rw [hE] at H3
    exact xo_f (fun z => by cases (H3.wr).mp z) (xo_v ⟨fw_ya (S := S) (fw_oc w13), RSy_s H3⟩)
  | none =>
    rw [hE] at H3 ev
    rw [eo_n]
    have a0 : mAl B S t < snm S := (eKn_0 hE).2
    have ev : v2 = nI (mAl B S t) := ev
    subst ev
    unfold nAl
    generalize mAl B S t = m at *
    obtain ⟨u0, v0⟩ := ws.2.2.1 m a0
    have gu := ws.2.1 _ u0
    have gv := ws.2.1 _ v0
    have gu8 : nuS S m ≤ 8 := gu.1.2
    have gv8 : nlS2 S m ≤ 8 := gv.1.2
    have gu0 : 0 < nuS S m := gu.1.1
    have gv0 : 0 < nlS2 S m := gv.1.1
    have wk2 := H3.2.2.1.1
    have kt2 := H3.2.2.1.2
    have k4 := wk2.2.2.2.2
    -- sizes, wherever only tokens were written
    have szl : ∀ {h9}, RQy h9 Y S T D → xi h9 (Y + 13) (xi h9 (Y + 16) (nI m).toNatClampNeg).toNatClampNeg = nI (nlS2 S m) ∧ (xi h9 (Y + 16) (nI m).toNatClampNeg) = nI (sml S m) := fun q => by
      rw [xz_nI (n := m) (by omega), (q.2.2.1 m a0).2.1, xz_nI (by omega)]
      exact ⟨(q.2.1 _ v0).1, rfl⟩
    have szu : ∀ {h9}, RQy h9 Y S T D → xi h9 (Y + 13) (xi h9 (Y + 15) (nI m).toNatClampNeg).toNatClampNeg = nI (nuS S m) ∧ (xi h9 (Y + 15) (nI m).toNatClampNeg) = nI (smu S m) := fun q => by
      rw [xz_nI (n := m) (by omega), (q.2.2.1 m a0).1, xz_nI (by omega)]
      exact ⟨(q.2.1 _ u0).1, rfl⟩
    refine xo_t H3.2.1 (xo_g H3.y.1 ?_)
    -- the check whether it is told
    let E' : ER := if tkK (nxn B t 2) = 2 ∧ vlT B (nxn B t 2) ≤ nlS2 S m - 1 then ck (mb (D m) (vlT B (nxn B t 2))) 3 (nxn B t 2) else none
    have eE : eo E' (eNu B 0 (nlS2 S m - 1) (nxn B t 2)) = eo (eNu B 0 (nlS2 S m - 1) (nxn B t 2)) (ck (mb (D m) (vlT B (nxn B t 2))) 3 (nxn B t 2)) := by
      show eo (if _ then _ else _) _ = _
      by_cases c : tkK (nxn B t 2) = 2 ∧ vlT B (nxn B t 2) ≤ nlS2 S m - 1
      · have e : eNu B 0 (nlS2 S m - 1) (nxn B t 2) = none := by simp [eNu, ck, eo, c.1, c.2]
        rw [if_pos c, e, eo_n, eo_nn]
      · rw [if_neg c, eo_n]
        cases e : eNu B 0 (nlS2 S m - 1) (nxn B t 2) with
        | some e => rfl
        | none => exact absurd ⟨(eNu_0 e).1, (eNu_0 e).2.2⟩ c
    rw [← eo_as, ← eE]
    refine xo_jh (fun h4 => fW (oY Y) noR h3 h4 ∧ RSy h4 Y B E' (nxn B t 2) (fun h => RQy h Y S T D)) (fun h4 q => ?_) (fun j73 jh => ?_)
    · obtain ⟨w4, H4⟩ := q
      have y4 := H4.y
      have w34 : fW (oY Y) noR h h4 := w13.trans w4
      have rq4 : RQy h4 Y S T D := Qo _ _ w34 c0
      refine xo_g y4.1 (xo_n y4.r13 (xo_g y4.1 (xo_n y4.r16 (xo_g (y4.g16 (by omega)) (xo_g (by rw [(szl rq4).2]; exact y4.g13 (by omega)) (xo_g y4.1 ?_))))))
      rw [(szl rq4).1, nI_p _ (by omega) gv0]
      refine xo_b (takes_s (lo := 0) H4 Qo (by omega) (by omega)) (fun v7 h5 q => ?_)
      obtain ⟨w5, H5, ev7⟩ := q
      have y5 := H5.y
      have w15 : fW (oY Y) noR h h5 := w34.trans w5
      have rq5 : RQy h5 Y S T D := Qo _ _ w15 c0
      refine xo_g y5.1 (xo_n y5.r13 (xo_g y5.1 (xo_n y5.r15 (xo_g (y5.g15 (by omega)) (xo_g (by rw [(szu rq5).2]; exact y5.g13 (by omega)) (xo_lte (szu rq5).1 ?_))))))
      have H5 : RSy h5 Y B (eo E' (eNu B 0 (nlS2 S m - 1) (nxn B t 2))) (nxn B t 3) (fun h => RQy h Y S T D) := H5
      have told : ∀ (v : Int32) (h9 : XH) (e : ER) (A' : PA), YL h9 Y → fW (yAll Y) noR h h9 → (∀ h10, h10 = yi h9 (Y + 20) m (xi h9 (Y + 20) m ||| (1 <<< (v &&& 31))) → RSy h10 Y B e (paK A') (fun h => RQy h Y (paZ A') (paT A') (paD A'))) → xo (xg (xk h9 Y = 10) <| xnn (xr h9 Y 38) fun w14 => xg (xk h9 w14 = 12 ∧ xin (nI m) (xn h9 w14)) <| xg (xk h9 w14 = 12 ∧ xin (nI m) (xn h9 w14)) <| xlt (yi h9 w14 (nI m : Int32).toNatClampNeg ((xi h9 w14 (nI m : Int32).toNatClampNeg) ||| (1 <<< (v &&& 31)))) fun h15 => xv () h15) (fun _ h' => LR h Y B e A' h') := fun v h9 e A' y9 w9 hh => by
        refine xo_g y9.1 (xo_n y9.r20 (xo_g (y9.g20 (by omega)) (xo_g (y9.g20 (by omega)) ?_)))
        rw [xz_nI (by omega)]
        exact xo_wi (fun h10 e10 => xo_v ⟨w9.trans (fw_i e10 (Or.inr (Or.inr ⟨by omega, by omega⟩))), hh h10 e10⟩)
      have wy15 : fW (yAll Y) noR h h5 := fw_ya (S := S) (fw_oc w15)
      cases hF : eo E' (eNu B 0 (nlS2 S m - 1) (nxn B t 2)) with
      | some e =>
        rw [hF] at H5
        refine el_loop (E := E) (n := 0) (hi := 1) (base := 0) (Q := fun _ => True) (RSy_s H5 (t' := nxn B t 3)) (fun _ _ _ _ => trivial) (by omega) (by omega) (fun i h ag j TP _ z => by cases z) (fun h7 w7 H7 => ?_)
        refine told v7 h7 (some e) _ H7.y (wy15.trans (fw_ey w7)) (fun h10 e10 => ?_)
        have H7 : RSy h7 Y B (some e) (nxn B t 3) (fun h => True ∧ ∀ k, k < 0 → xi h (Y + 12) (0 + k) = nI (tEl B (nxn B t 3) k)) := H7
        obtain ⟨⟨q1, q2⟩, t', q3, q4⟩ := H7.2
        exact ⟨RLy_fw H7.1 (A := fun a j => a = Y + 20) (fw_i e10 rfl) (fun a j q => by omega), ⟨⟨(e_o e10 (Or.inl (by omega))).trans q1.1, (e_o e10 (Or.inl (by omega))).trans q1.2⟩, q2⟩, t', q3, RTk_fw q4 (A := fun a j => a = Y + 20) (fw_i e10 rfl) (fun j _ _ => by omega)⟩
      | none =>
        rw [hF] at H5 ev7
        rw [eo_n]
        rw [eE] at hF
        obtain ⟨n0, n9⟩ := eo_none hF
        obtain ⟨n1, -, n3⟩ := eNu_0 n0
        have ev7 : v7 = nI (vlT B (nxn B t 2)) := ev7
        subst ev7
        generalize vlT B (nxn B t 2) = gd at *
        refine el_loop (E := E) (er := none) (t := nxn B t 3) (n := nuS S m) (hi := nuS S m - 1) (base := 48 + 64 * m + 8 * gd) (Q := fun h => fW (eY Y (48 + 64 * m + 8 * gd) (nuS S m)) noR h5 h) ⟨H5.1, H5.2.1, H5.2.2.1, fW.refl _ _ _⟩ (fun a b w q => q.trans w) gu8 (by omega) (fun i h8 ag j TP hi z w q tk tw je st => ?_) (fun h7 w7 H7 => ?_)
        · by_cases c : i = nuS S m
          · exact xo_t (by rw [c]; exact Int32.le_refl _) (je c)
          · have y := YL_fw y5 w
            refine xo_f (nI_ge (by omega) (by omega)) (xo_g y.1 (xo_n y.r12 (xo_g y.1 ?_)))
            rw [nI_p _ (by omega) gu0]
            refine xo_b tk (fun v h9 q9 => ?_)
            have y9 := YL_fw y (tw v h9 q9)
            have cx : (((48 : Int32) + 64 * nI m) + 8 * nI gd) + nI i = nI (48 + 64 * m + 8 * gd + i) := by rw [li48, li64, li8, nI_m, nI_a, nI_m, nI_a, nI_a]
            rw [cx]
            refine xo_g (y9.g12 (by omega)) (xo_lt ?_)
            rw [xz_nI (by omega)]
            exact st (by omega) v h9 q9
        · rw [eo_n] at H7
          refine told (nI gd) h7 _ _ H7.y (wy15.trans (fw_ey w7)) (fun h10 e10 => ?_)
          have v10 : fW (fun a j => oY Y a j ∨ (a = Y + 12 ∧ 48 + 64 * m + 8 * gd ≤ j ∧ j < 48 + 64 * m + 8 * gd + nuS S m) ∨ (a = Y + 20 ∧ j = m)) noR h5 h10 := (w7.wide (fun a j q => by
            rcases q with q | q
            · exact Or.inl q
            · exact Or.inr (Or.inl q)) (fun a j q => q)).trans (fw_i e10 (Or.inr (Or.inr ⟨rfl, rfl⟩)))
          have l10 : RLy h10 Y B := RLy_fw H7.1 (A := fun a j => a = Y + 20) (fw_i e10 rfl) (fun a j q => by omega)
          cases hL : eEl B (nuS S m - 1) (nxn B t 3) (nuS S m) with
          | some e =>
            rw [hL] at H7
            obtain ⟨⟨q1, q2⟩, t', q3, q4⟩ := H7.2
            exact ⟨l10, ⟨⟨(e_o e10 (Or.inl (by omega))).trans q1.1, (e_o e10 (Or.inl (by omega))).trans q1.2⟩, q2⟩, t', q3, RTk_fw q4 (A := fun a j => a = Y + 20) (fw_i e10 rfl) (fun j _ _ => by omega)⟩
          | none =>
            rw [hL] at H7
            obtain ⟨q1, ⟨q2, q3⟩, q4, q5⟩ := H7.2
            refine ⟨l10, (e_o e10 (Or.inl (by omega))).trans q1, ⟨q2, RTk_fw q3 (A := fun a j => a = Y + 20) (fw_i e10 rfl) (fun j _ _ => by omega)⟩, ?_⟩
            refine RQ_a rq5 ws a0 (show gd < nlS2 S m by omega) v10 ?_ (fun a ha => (e_o e10 (Or.inl (by omega))).trans (q5 a ha))
            rw [e_s e10, w7.i (fun q => by unfold eY oY at q; omega), (rq5.2.2.1 m a0).2.2]
            rfl
    · rw [kt2.1.2.2]
      by_cases c : tkK (nxn B t 2) = 2
      · have v100 := vlT_lt wk2 c
        have rq3 := H3.2.2.2
        have y3 := H3.y
        refine xo_t (by rw [c]; rfl) (xo_g y3.1 (xo_g y3.1 (xo_n y3.r13 (xo_g y3.1 (xo_n y3.r16 (xo_g (y3.g16 (by omega)) (xo_g (by rw [(szl rq3).2]; exact y3.g13 (by omega)) ?_)))))))
        rw [(szl rq3).1, nI_p _ (by omega) gv0, kt2.2 c]
        have hh : (¬ nI (vlT B (nxn B t 2)) < 0 ∧ ¬ nI (nlS2 S m - 1) < nI (vlT B (nxn B t 2))) ↔ decide (vlT B (nxn B t 2) ≤ nlS2 S m - 1) = true := by
          rw [nI_lt0 (by omega), nI_ltP (by omega) (by omega), decide_eq_true_eq]
          simp
        refine xo_eb (in_v hh) ?_
        by_cases c2 : vlT B (nxn B t 2) ≤ nlS2 S m - 1
        · rw [decide_eq_true c2]
          have eE' : E' = ck (mb (D m) (vlT B (nxn B t 2))) 3 (nxn B t 2) := if_pos ⟨c, c2⟩
          refine xo_f (by decide) (xo_g y3.1 (xo_n y3.r20 (xo_g (y3.g20 (by omega)) (xo_g y3.1 ?_))))
          rw [xz_nI (by omega), (rq3.2.2.1 m a0).2.2, kt2.2 c]
          refine xo_eb (FX9_has_v (D m) (show vlT B (nxn B t 2) < 32 by omega)) (xo_g y3.1 (xo_b (failsIf_s (code := 3) (c := mb (D m) (vlT B (nxn B t 2))) H3 Qo (by omega) (by omega) (fun _ => rfl)) (fun _ h4 q => jh _ ⟨q.1, ?_⟩)))
          rw [eE']
          exact q.2
        · rw [decide_eq_false c2]
          have eE' : E' = none := if_neg (fun z => c2 z.2)
          exact xo_t rfl (jh _ ⟨fW.refl _ _ _, by rw [eE']; exact H3⟩)
      · have eE' : E' = none := if_neg (fun z => c z.1)
        exact xo_f (by rw [li2, nI_eqP (by omega) (by omega)]; exact c) (jh _ ⟨fW.refl _ _ _, by rw [eE']; exact H3⟩)
/-- an arrow more -/
theorem RQ_r {w : List Nat} {u v : Nat} {f f2 : Nat → Nat} (c : RQy h1 Y S T D) (ws : WS S) (hu : u < snm S) (hv : v < snm S) (e : h2 = yi h1 Y 37 (nI (sna S + 1))) (n : RNn h1 Y S 2 w) (r : xi h1 (Y + 17) (sna S) = nI u ∧ xi h1 (Y + 18) (sna S) = nI v) (b : ∀ a, a < nuS S u → xi h1 (Y + 12) (432 + 8 * sna S + a) = nI (f a)) (q : ∀ a, a < nlS2 S u → xi h1 (Y + 12) (496 + 8 * sna S + a) = nI (f2 a)) : RQy h2 Y (sAa (sNm S 2 w) u v) (tbd T, tac T, (fun a x => if a = sna S then f x else ttp T a x), (fun a x => if a = sna S then f2 x else tbt T a x), tcc T) D := by
  obtain ⟨⟨c1, c2, c3⟩, c4, c5, c6, c7, c8⟩ := c
  obtain ⟨⟨w1, w2, w3⟩, w4, w5, w6⟩ := ws
  have o := fun m (hm : ¬ m = sna S) => sAa_o (S := sNm S 2 w) (u := u) (l := v) hm
  have nn := sAa_n (S := sNm S 2 w) (u := u) (l := v)
  have n1 : saf (sAa (sNm S 2 w) u v) (sna S) = u := nn.1
  have n2 : sao (sAa (sNm S 2 w) u v) (sna S) = v := nn.2
  have o1 : ∀ m, m < sna S → saf (sAa (sNm S 2 w) u v) m = saf S m := fun m hm => (o m (Nat.ne_of_lt hm)).1
  have o2 : ∀ m, m < sna S → sao (sAa (sNm S 2 w) u v) m = sao S m := fun m hm => (o m (Nat.ne_of_lt hm)).2
  have ne : ∀ a j, (¬ a = Y ∨ ¬ j = 37) → xi h2 a j = xi h1 a j := fun a j z => e_o e z
  refine ⟨⟨(ne _ _ (Or.inr (by decide))).trans c1, (ne _ _ (Or.inr (by decide))).trans c2, e_s e⟩, fun k hk => ⟨(ne _ _ (Or.inl (by omega))).trans (c4 k hk).1, fun a b ha hb => (ne _ _ (Or.inl (by omega))).trans ((c4 k hk).2 a b ha hb)⟩, fun m hm => ⟨(ne _ _ (Or.inl (by omega))).trans (c5 m hm).1, (ne _ _ (Or.inl (by omega))).trans (c5 m hm).2.1, (ne _ _ (Or.inl (by omega))).trans (c5 m hm).2.2⟩, fun a ha => ?_, ⟨fun m a q1 q2 => (ne _ _ (Or.inl (by omega))).trans (c7.1 m a q1 q2), fun m g' a q1 q2 q3 => (ne _ _ (Or.inl (by omega))).trans (c7.2.1 m g' a q1 q2 q3), fun a x q1 q2 => ?_, fun a x q1 q2 => ?_, fun x q1 => (ne _ _ (Or.inl (by omega))).trans (c7.2.2.2.2 x q1)⟩, fun s hs k i hk hi => ?_⟩
  · have ha : a < sna S + 1 := ha
    rw [ne _ _ (Or.inl (by omega)), ne _ _ (Or.inl (by omega))]
    by_cases z : a = sna S
    · subst z
      rw [n1, n2]
      exact r
    · rw [o1 a (by omega), o2 a (by omega)]
      exact c6 a (by omega)
  · have q1 : a < sna S + 1 := q1
    have q2 : x < nuS S (saf (sAa (sNm S 2 w) u v) a) := q2
    show xi h2 _ _ = nI (if a = sna S then f x else ttp T a x)
    rw [ne _ _ (Or.inl (by omega)), Nat.zero_add]
    by_cases z : a = sna S
    · subst z
      rw [n1] at q2
      rw [if_pos rfl]
      exact b x q2
    · rw [o1 a (by omega)] at q2
      rw [if_neg z]
      have := c7.2.2.1 a x (by omega) q2
      rwa [Nat.zero_add] at this
  · have q1 : a < sna S + 1 := q1
    have q2 : x < nlS2 S (saf (sAa (sNm S 2 w) u v) a) := q2
    show xi h2 _ _ = nI (if a = sna S then f2 x else tbt T a x)
    rw [ne _ _ (Or.inl (by omega)), Nat.zero_add]
    by_cases z : a = sna S
    · subst z
      rw [n1] at q2
      rw [if_pos rfl]
      exact q x q2
    · rw [o1 a (by omega)] at q2
      rw [if_neg z]
      have := c7.2.2.2.1 a x (by omega) q2
      rwa [Nat.zero_add] at this
  · rw [scn_aa s hs] at hk
    show xi h2 _ _ = nI ((if s = 2 ∧ k = scn S 2 then w else snn S s k).getD i 0)
    by_cases z : s = 2 ∧ k = scn S 2
    · rw [if_pos z, ne _ _ (Or.inl (by omega)), z.1, z.2]
      exact n i hi
    · rw [if_neg z, ne _ _ (Or.inl (by omega))]
      refine c8 s hs k i ?_ hi
      by_cases y : s = 2
      · rw [if_pos y] at hk
        subst y
        have : ¬ k = scn S 2 := fun x => z ⟨rfl, x⟩
        omega
      · rw [if_neg y] at hk; exact hk
theorem ey_c2 (hg : sna S < 8) {n base : Nat} (hn : n ≤ 8) (hb : base = 432 + 8 * sna S ∨ base = 496 + 8 * sna S) (w : fW (eY Y base n) noR h h') : fW (cY Y S) noR h h' := w.wide (fun a j q => by
  rcases q with q | q
  · exact Or.inl q
  · exact Or.inr (Or.inr (Or.inr ⟨hg, Or.inr ⟨q.1, by omega⟩⟩))) (fun a j q => q)
end RLI
