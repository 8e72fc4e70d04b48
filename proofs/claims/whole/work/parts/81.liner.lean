/-! The reference reads modules, acts, arrows. -/
set_option linter.unusedVariables false
/-- where elements are laid -/
def eY (Y base n : Nat) : Nat → Nat → Prop := fun a j => oY Y a j ∨ (a = Y + 12 ∧ base ≤ j ∧ j < base + n)
theorem xo_wz {α : Type} {h : XH} {a n : Nat} {x : Int32} {f : XH → XP α} {Q : α → XH → Prop} (hn : n < 2 ^ 31) (hm : ∀ h', h' = yi h a n x → xo (f h') Q) : xo (xlt (yi h a (nI n).toNatClampNeg x) f) Q := by
  rw [xz_nI hn]
  exact hm _ rfl
section RLI
variable {E : XG} {h h' h1 h2 : XH} {Y i g0 : Nat} {B : BF} {t : TK} {er : ER} {S : SD} {T : ST} {D : Nat → Int32} {A : Nat → Nat → Prop}
theorem eEl_mono {e : Nat × Nat} {hi i n : Nat} (h : eo er (eEl B hi t i) = some e) (hin : i ≤ n) : eo er (eEl B hi t n) = some e := by
  induction n with
  | zero => rw [show i = 0 by omega] at h; exact h
  | succ n ih =>
    by_cases z : i = n + 1
    · rw [z] at h; exact h
    · have := ih (by omega)
      show eo er (eo (eEl B hi t n) _) = some e
      rw [← eo_as, this]
      rfl
theorem RSy_s {Q Q' : XH → Prop} {e : Nat × Nat} {t' : TK} (H : RSy h Y B (some e) t Q) : RSy h Y B (some e) t' Q' := ⟨H.1, H.2⟩
theorem el_loop {α : Type} {END : XH → XP α} {G : (Int32 → XH → XP α) → Int32 → (XH → XP α) → XH → XP α} {Q9 : α → XH → Prop} {n hi base : Nat} {h0 : XH} {Q : XH → Prop} (H0 : RSy h0 Y B er t Q) (hQ : StA (eY Y base n) Q) (hn : n ≤ 8) (h100 : hi < 100)
    (hG : ∀ i h ag j (TP : Int32 → XH → Prop), i ≤ n → er = none → fW (eY Y base n) noR h0 h → Q h → xo (FX9_takes E Y 0 (nI hi) h) TP → (∀ v h1, TP v h1 → fW (oY Y) noR h h1) → (i = n → xo (j h) Q9) → (i < n → ∀ v h1, TP v h1 → xo (ag (nI i + 1) (yi h1 (Y + 12) (base + i) v)) Q9) → xo (G ag (nI i) j h) Q9)
    (hE : ∀ h, fW (eY Y base n) noR h0 h → RSy h Y B (eo er (eEl B hi t n)) (nxn B t n) (fun h => Q h ∧ ∀ k, k < n → xi h (Y + 12) (base + k) = nI (tEl B t k)) → xo (END h) Q9) :
    xo (xlp (fun ag (s : Int32) h => xg (xk h Y = 10) <| xjn END fun (j : XH → XP α) => if ((xi h Y 25) : Int32) = 0 then (G ag s j h) else (j h)) xfu 0 h0) Q9 := by
  have so : ∀ {h h'}, fW (oY Y) noR h h' → fW (eY Y base n) noR h h' := fun w => w.wide (fun a j q => Or.inl q) (fun a j q => q)
  have Qi : ∀ i, StA (oY Y) (fun h => Q h ∧ ∀ k, k < i → xi h (Y + 12) (base + k) = nI (tEl B t k)) := fun i a b w q => ⟨hQ a b (so w) q.1, fun k hk => (w.i (fun z => by unfold oY at z; omega)).trans (q.2 k hk)⟩
  refine xlp_inv (Po := fun m => xo m Q9) (fun i s h => s = nI i ∧ fW (eY Y base n) noR h0 h ∧ RSy h Y B (eo er (eEl B hi t i)) (nxn B t i) (fun h => Q h ∧ ∀ k, k < i → xi h (Y + 12) (base + k) = nI (tEl B t k))) n (by omega) (fun i s h ag hi' I again => ?_) ⟨rfl, fW.refl _ _ _, ?_⟩
  · obtain ⟨rfl, w, H⟩ := I
    refine xo_g H.y.1 (xo_jh (fun h' => fW (eY Y base n) noR h0 h' ∧ RSy h' Y B (eo er (eEl B hi t n)) (nxn B t n) (fun h => Q h ∧ ∀ k, k < n → xi h (Y + 12) (base + k) = nI (tEl B t k))) (fun h' q => hE h' q.1 q.2) (fun j jh => ?_))
    cases hF : eo er (eEl B hi t i) with
    | some e =>
      rw [hF] at H
      refine xo_f (fun z => by cases (H.wr).mp z) (jh _ ⟨w, ?_⟩)
      rw [eEl_mono hF hi']
      exact RSy_s H
    | none =>
      rw [hF] at H
      obtain ⟨f1, f2⟩ := eo_none hF
      refine xo_t H.2.1 (hG i h ag j _ hi' f1 w H.2.2.2.1 (takes_s (lo := 0) H (Qi i) (by omega) h100) (fun v h1 q => q.1) (fun z => ?_) (fun z v h1 q => ?_))
      · subst z
        refine jh _ ⟨w, ?_⟩
        rw [hF]; exact H
      · obtain ⟨w1, H1, ev⟩ := q
        rw [eo_n] at H1 ev
        obtain ⟨h3, e3⟩ : ∃ h3, h3 = yi h1 (Y + 12) (base + i) v := ⟨_, rfl⟩
        rw [← e3, nI_s]
        have w3 : fW (eY Y base n) noR h1 h3 := fw_i e3 (Or.inr ⟨rfl, by omega, by omega⟩)
        have eE : eo er (eEl B hi t (i + 1)) = eNu B 0 hi (nxn B t i) := by
          show eo er (eo (eEl B hi t i) _) = _
          rw [f1, f2]; rfl
        refine again z _ _ ⟨rfl, (w.trans (so w1)).trans w3, ?_⟩
        rw [eE]
        have l3 : RLy h3 Y B := RLy_fw H1.1 (A := fun a j => a = Y + 12) (fw_i e3 rfl) (fun a j q => by omega)
        cases hN : eNu B 0 hi (nxn B t i) with
        | some e =>
          rw [hN] at H1
          obtain ⟨⟨q1, q2⟩, t', q3, q4⟩ := H1.2
          exact ⟨l3, ⟨⟨(e_o e3 (Or.inl (by omega))).trans q1.1, (e_o e3 (Or.inl (by omega))).trans q1.2⟩, q2⟩, t', q3, RTk_fw q4 (A := fun a j => a = Y + 12) (fw_i e3 rfl) (fun j _ _ => by omega)⟩
        | none =>
          rw [hN] at H1 ev
          refine ⟨l3, (e_o e3 (Or.inl (by omega))).trans H1.2.1, ⟨H1.2.2.1.1, RTk_fw H1.2.2.1.2 (A := fun a j => a = Y + 12) (fw_i e3 rfl) (fun j _ _ => by omega)⟩, hQ _ _ w3 H1.2.2.2.1, fun k hk => ?_⟩
          by_cases c : k = i
          · rw [c, e_s e3]; exact ev
          · rw [e_o e3 (Or.inr (by omega))]; exact H1.2.2.2.2 k (by omega)
  · show RSy h0 Y B (eo er none) t _
    rw [eo_nn]
    cases er with
    | some e => exact RSy_s H0
    | none => exact ⟨H0.1, H0.2.1, H0.2.2.1, H0.2.2.2, fun k hk => absurd hk (Nat.not_lt_zero _)⟩
theorem fw_ey {base n : Nat} (w : fW (eY Y base n) noR h h') : fW (yAll Y) noR h h' := w.wide (fun a j q => by unfold eY oY at q; unfold yAll; omega) (fun a j q => q)
/-- a module more -/
theorem RQ_m {w : List Nat} {u v : Nat} {f : Nat → Nat} (c : RQy h1 Y S T D) (ws : WS S) (hu : u < sng S) (hv : v < sng S) (e : h2 = yi h1 Y 36 (nI (snm S + 1))) (n : RNn h1 Y S 1 w) (r : xi h1 (Y + 15) (snm S) = nI u ∧ xi h1 (Y + 16) (snm S) = nI v ∧ xi h1 (Y + 20) (snm S) = 0) (b : ∀ a, a < sgn S u → xi h1 (Y + 12) (8 * snm S + a) = nI (f a)) (q : ∀ k, k < 64 → xi h1 (Y + 12) (48 + 64 * snm S + k) = nI (k % 8)) : RQy h2 Y (sAm (sNm S 1 w) u v) ((fun m a => if m = snm S then f a else tbd T m a), (fun m g a => if m = snm S then a else tac T m g a), T.2.2) (fun m => if m = snm S then 0 else D m) := by
  obtain ⟨⟨c1, c2, c3⟩, c4, c5, c6, c7, c8⟩ := c
  obtain ⟨⟨w1, w2, w3⟩, w4, w5, w6⟩ := ws
  have o := fun m (hm : ¬ m = snm S) => sAm_o (S := sNm S 1 w) (u := u) (l := v) hm
  have nn := sAm_n (S := sNm S 1 w) (u := u) (l := v)
  have n1 : smu (sAm (sNm S 1 w) u v) (snm S) = u := nn.1
  have n2 : sml (sAm (sNm S 1 w) u v) (snm S) = v := nn.2
  have o1 : ∀ m, m < snm S → smu (sAm (sNm S 1 w) u v) m = smu S m := fun m hm => (o m (Nat.ne_of_lt hm)).1
  have o2 : ∀ m, m < snm S → sml (sAm (sNm S 1 w) u v) m = sml S m := fun m hm => (o m (Nat.ne_of_lt hm)).2
  have ou : ∀ m, m < snm S → nuS (sAm (sNm S 1 w) u v) m = nuS S m := fun m hm => congrArg (sgn S) (o1 m hm)
  have ol : ∀ m, m < snm S → nlS2 (sAm (sNm S 1 w) u v) m = nlS2 S m := fun m hm => congrArg (sgn S) (o2 m hm)
  have nu : nuS (sAm (sNm S 1 w) u v) (snm S) = sgn S u := congrArg (sgn S) n1
  have nl : nlS2 (sAm (sNm S 1 w) u v) (snm S) = sgn S v := congrArg (sgn S) n2
  have ne : ∀ a j, (¬ a = Y ∨ ¬ j = 36) → xi h2 a j = xi h1 a j := fun a j z => e_o e z
  have u8 := (w4 u hu).1.2
  have v8 := (w4 v hv).1.2
  refine ⟨⟨(ne _ _ (Or.inr (by decide))).trans c1, e_s e, (ne _ _ (Or.inr (by decide))).trans c3⟩, fun k hk => ⟨(ne _ _ (Or.inl (by omega))).trans (c4 k hk).1, fun a b ha hb => (ne _ _ (Or.inl (by omega))).trans ((c4 k hk).2 a b ha hb)⟩, fun m hm => ?_, fun a ha => ⟨(ne _ _ (Or.inl (by omega))).trans (c6 a ha).1, (ne _ _ (Or.inl (by omega))).trans (c6 a ha).2⟩, ⟨fun m a q1 q2 => ?_, fun m g' a q1 q2 q3 => ?_, fun a x q1 q2 => ?_, fun a x q1 q2 => ?_, fun x q1 => (ne _ _ (Or.inl (by omega))).trans (c7.2.2.2.2 x q1)⟩, fun s hs k i hk hi => ?_⟩
  · have hm : m < snm S + 1 := hm
    show xi h2 _ m = _ ∧ xi h2 _ m = _ ∧ xi h2 _ m = (if m = snm S then 0 else D m)
    rw [ne _ _ (Or.inl (by omega)), ne _ _ (Or.inl (by omega)), ne _ _ (Or.inl (by omega))]
    by_cases z : m = snm S
    · subst z
      rw [n1, n2, if_pos rfl]
      exact r
    · rw [o1 m (by omega), o2 m (by omega), if_neg z]
      exact c5 m (by omega)
  · have q1 : m < snm S + 1 := q1
    have q2 : a < nuS (sAm (sNm S 1 w) u v) m := q2
    show xi h2 _ _ = nI (if m = snm S then f a else tbd T m a)
    rw [ne _ _ (Or.inl (by omega)), Nat.zero_add]
    by_cases z : m = snm S
    · subst z
      rw [nu] at q2
      rw [if_pos rfl]
      exact b a q2
    · rw [ou m (by omega)] at q2
      rw [if_neg z]
      have := c7.1 m a (by omega) q2
      rwa [Nat.zero_add] at this
  · have q1 : m < snm S + 1 := q1
    have q2 : g' < nlS2 (sAm (sNm S 1 w) u v) m := q2
    have q3 : a < nuS (sAm (sNm S 1 w) u v) m := q3
    show xi h2 _ _ = nI (if m = snm S then a else tac T m g' a)
    rw [ne _ _ (Or.inl (by omega)), Nat.zero_add]
    by_cases z : m = snm S
    · subst z
      rw [nu] at q3
      rw [nl] at q2
      rw [if_pos rfl, show 48 + 64 * snm S + 8 * g' + a = 48 + 64 * snm S + (8 * g' + a) by omega, q _ (by omega), show (8 * g' + a) % 8 = a by omega]
    · rw [ou m (by omega)] at q3
      rw [ol m (by omega)] at q2
      rw [if_neg z]
      have := c7.2.1 m g' a (by omega) q2 q3
      rwa [Nat.zero_add] at this
  · have q2 : x < nuS (sAm (sNm S 1 w) u v) (saf S a) := q2
    rw [ou _ (w6 a q1).1] at q2
    exact (ne _ _ (Or.inl (by omega))).trans (c7.2.2.1 a x q1 q2)
  · have q2 : x < nlS2 (sAm (sNm S 1 w) u v) (saf S a) := q2
    rw [ol _ (w6 a q1).1] at q2
    exact (ne _ _ (Or.inl (by omega))).trans (c7.2.2.2.1 a x q1 q2)
  · rw [scn_am s hs] at hk
    show xi h2 _ _ = nI ((if s = 1 ∧ k = scn S 1 then w else snn S s k).getD i 0)
    by_cases z : s = 1 ∧ k = scn S 1
    · rw [if_pos z, ne _ _ (Or.inl (by omega)), z.1, z.2]
      exact n i hi
    · rw [if_neg z, ne _ _ (Or.inl (by omega))]
      refine c8 s hs k i ?_ hi
      by_cases y : s = 1
      · rw [if_pos y] at hk
        subst y
        have : ¬ k = scn S 1 := fun x => z ⟨rfl, x⟩
        omega
      · rw [if_neg y] at hk; exact hk
theorem ey_c (hg : snm S < 6) {n : Nat} (hn : n ≤ 8) (w : fW (eY Y (8 * snm S) n) noR h h') : fW (cY Y S) noR h h' := w.wide (fun a j q => by
  rcases q with q | q
  · exact Or.inl q
  · exact Or.inr (Or.inr (Or.inl ⟨hg, Or.inr ⟨q.1, Or.inl ⟨q.2.1, by omega⟩⟩⟩))) (fun a j q => q)
theorem moduleLine_o (H : RSy h Y B none t (fun h => RQy h Y S T D)) (ws : WS S) (nm : WNm S) : xo (FX9_moduleLine E Y h) (fun _ h' => LR h Y B (eMl B S t) (nMl B S T D t) h') := by
  have c0 := H.2.2.2
  have m6 := ws.1.2.1
  have g6 := ws.1.1
  have Qo : StA (oY Y) (fun h => RQy h Y S T D) := StA_o (RQ_c ws)
  unfold FX9_moduleLine
  refine xo_g H.y.1 (xo_lte c0.1.2.1 (xo_jp (fun v h1 => h1 = h ∧ v = bI (decide (snm S = 6))) (fun v h1 z => ?_) (fun j jh => ?_)))
  · obtain ⟨rfl, rfl⟩ := z
    refine xo_g H.y.1 (xo_b (failsIf_s (code := 4) (c := decide (snm S = 6)) H Qo (by omega) (by omega) (fun _ => rfl)) (fun _ h2 q => ?_))
    obtain ⟨w2, H2⟩ := q
    rw [eo_n] at H2
    refine xo_g H2.y.1 (xo_b (goesOn_s H2 Qo) (fun _ h3 q => ?_))
    obtain ⟨w3, H3⟩ := q
    refine xo_g H3.y.1 (xo_b (newName_s (s9 := 1) H3 (RQ_n ws (by omega)) ws nm (by omega) (fun h' q => q.2.2.2.2.2 1 (by omega)) (fun z => ?_)) (fun _ h4 q => ?_))
    · have := of_decide_eq_false (ck_none z)
      show snm S < 6
      omega
    obtain ⟨w4, H4⟩ := q
    have w14 : fW (yAll Y) noR h1 h4 := (fw_ya (S := S) (fw_oc (w2.trans w3))).trans (fw_yn (by omega) w4)
    have e4 : xi h4 Y 35 = nI (sng S) := (w4.i (fun q => by unfold nY oY at q; omega)).trans (((w2.trans w3).i (fun q => by unfold oY at q; omega)).trans c0.1.1)
    have f4 : xi h4 Y 36 = nI (snm S) := (w4.i (fun q => by unfold nY oY at q; omega)).trans (((w2.trans w3).i (fun q => by unfold oY at q; omega)).trans c0.1.2.1)
    have Q1o : StA (oY Y) (fun h => RQy h Y S T D ∧ RNn h Y S 1 (wdT B (nx B t))) := StA_o (Q1_c ws)
    refine xo_g H4.y.1 (xo_g H4.y.1 ?_)
    rw [e4]
    refine xo_b (takesName_s (s := 0) H4 Q1o ws nm (by omega) (fun h' q => q.1.2.2.2.2.2 0 (by omega))) (fun v7 h5 q => ?_)
    obtain ⟨w5, H5, ev⟩ := q
    have e5 : xi h5 Y 35 = nI (sng S) := (w5.i (fun q => by unfold oY at q; omega)).trans e4
    refine xo_g H5.y.1 (xo_g H5.y.1 ?_)
    rw [e5]
    refine xo_b (takesName_s (s := 0) H5 Q1o ws nm (by omega) (fun h' q => q.1.2.2.2.2.2 0 (by omega))) (fun v9 h6 q => ?_)
    obtain ⟨w6, H6, ev2⟩ := q
    have w16 : fW (yAll Y) noR h1 h6 := w14.trans (fw_ya (S := S) (fw_oc (w5.trans w6)))
    have f6 : xi h6 Y 36 = nI (snm S) := ((w5.trans w6).i (fun q => by unfold oY at q; omega)).trans f4
    have H6 : RSy h6 Y B (eo (eo (eo (ck (decide (snm S = 6)) 4 t) (eNm B S 1 (nx B t))) (eKn B S 0 (nxn B t 2))) (eKn B S 0 (nxn B t 3))) (nxn B t 4) (fun h => RQy h Y S T D ∧ RNn h Y S 1 (wdT B (nx B t))) := H6
    have ev : v7 = nI (vEr (eo (eo (ck (decide (snm S = 6)) 4 t) (eNm B S 1 (nx B t))) (eKn B S 0 (nxn B t 2))) 0 (nmI S 0 (wdT B (nxn B t 2)))) := ev
    have ev2 : v9 = nI (vEr (eo (eo (eo (ck (decide (snm S = 6)) 4 t) (eNm B S 1 (nx B t))) (eKn B S 0 (nxn B t 2))) (eKn B S 0 (nxn B t 3))) 0 (nmI S 0 (wdT B (nxn B t 3)))) := ev2
    have eG : eMl B S t = eo (eo (eo (eo (ck (decide (snm S = 6)) 4 t) (eNm B S 1 (nx B t))) (eKn B S 0 (nxn B t 2))) (eKn B S 0 (nxn B t 3))) (eEl B (sgn S (nmI S 0 (wdT B (nxn B t 3))) - 1) (nxn B t 4) (sgn S (nmI S 0 (wdT B (nxn B t 2))))) := by
      unfold eMl
      rw [eo_as, eo_as, eo_as]
    cases hE : eo (eo (eo (ck (decide (snm S = 6)) 4 t) (eNm B S 1 (nx B t))) (eKn B S 0 (nxn B t 2))) (eKn B S 0 (nxn B t 3)) with
    | some e =>
      rw [hE] at H6 eG
      rw [eG]
      refine el_loop (E := E) (n := 0) (hi := 1) (base := 0) H6 (fun a b w q => Q1o a b (w.wide (fun a j q => by unfold eY at q; unfold oY at *; omega) (fun a j q => q)) q) (by omega) (by omega) (fun i h ag j TP _ z => by cases z) (fun h7 w7 H7 => ?_)
      have H7 : RSy h7 Y B (some e) (nxn B t 4) (fun h => (RQy h Y S T D ∧ RNn h Y S 1 (wdT B (nx B t))) ∧ ∀ k, k < 0 → xi h (Y + 12) (0 + k) = nI (tEl B (nxn B t 4) k)) := H7
      exact xo_g H7.y.1 (xo_f (fun z => by cases (H7.wr).mp z) (xo_v ⟨w16.trans (fw_ey w7), RSy_s H7⟩))
    | none =>
      rw [hE] at H6 eG ev2
      obtain ⟨z1, z2⟩ := eo_none hE
      obtain ⟨z3, z4⟩ := eo_none z1
      obtain ⟨z5, z6⟩ := eo_none z3
      rw [z1] at ev
      rw [eo_n] at eG
      have hg : snm S < 6 := by
        have := of_decide_eq_false (ck_none z5)
        omega
      have a0 : nmI S 0 (wdT B (nxn B t 2)) < sng S := (eKn_0 z4).2
      have b0 : nmI S 0 (wdT B (nxn B t 3)) < sng S := (eKn_0 z2).2
      rw [eG]
      unfold nMl
      generalize nmI S 0 (wdT B (nxn B t 2)) = u at *
      generalize nmI S 0 (wdT B (nxn B t 3)) = l at *
      have ev : v7 = nI u := ev
      have ev2 : v9 = nI l := ev2
      subst ev
      subst ev2
      have gu := ws.2.1 u a0
      have gl := ws.2.1 l b0
      refine el_loop (E := E) (n := sgn S u) (hi := sgn S l - 1) (base := 8 * snm S) H6 (fun a b w q => Q1_c ws a b (ey_c hg gu.1.2 w) q) gu.1.2 (by omega) (fun i h ag j TP hi z w q tk tw je st => ?_) (fun h7 w7 H7 => ?_)
      · have y := YL_fw H6.y w
        have su := (q.1.2.1 u a0).1
        have sl := (q.1.2.1 l b0).1
        refine xo_g y.1 (xo_n y.r13 (xo_g (y.g13 (by omega)) ?_))
        by_cases c : i = sgn S u
        · exact xo_t (by rw [xz_nI (by omega), su, c]; exact Int32.le_refl _) (je c)
        · refine xo_f (by rw [xz_nI (by omega), su]; exact nI_ge (by omega) (by omega)) (xo_g y.1 (xo_n y.r12 (xo_g y.1 (xo_n y.r13 (xo_g (y.g13 (by omega)) (xo_g y.1 ?_))))))
          rw [xz_nI (n := l) (by omega), sl, nI_p _ (by omega) gl.1.1]
          refine xo_b tk (fun v h8 q8 => ?_)
          have y8 := YL_fw y (tw v h8 q8)
          have cx : ((0 : Int32) + 8 * nI (snm S)) + nI i = nI (8 * snm S + i) := by rw [o_nI, li8, nI_m, nI_a]
          rw [cx]
          refine xo_g (y8.g12 (by omega)) (xo_lt ?_)
          rw [xz_nI (by omega)]
          exact st (by omega) v h8 q8
      · have w17 := w16.trans (fw_ey w7)
        refine xo_g H7.y.1 ?_
        cases hF : eo none (eEl B (sgn S l - 1) (nxn B t 4) (sgn S u)) with
        | some e =>
          rw [hF] at H7
          rw [eo_n] at hF
          rw [hF]
          exact xo_f (fun z => by cases (H7.wr).mp z) (xo_v ⟨w17, RSy_s H7⟩)
        | none =>
          rw [hF] at H7
          rw [eo_n] at hF
          rw [hF]
          obtain ⟨q1, ⟨q2, q3⟩, ⟨q4, q5⟩, q6⟩ := H7.2
          have y7 := H7.y
          refine xo_t q1 (xo_g y7.1 (xo_n y7.r15 (xo_g (y7.g15 hg) ?_)))
          refine xo_wz (by omega) (fun h8 e8 => ?_)
          have v8 : fW (cY Y S) noR h7 h8 := fw_i e8 (Or.inr (Or.inr (Or.inl ⟨hg, Or.inl ⟨by omega, rfl⟩⟩)))
          have y8 := YL_fw y7 v8
          refine xo_g y8.1 (xo_n y8.r16 (xo_g (y8.g16 hg) (xo_wz (by omega) (fun h9 e9 => ?_))))
          have v9 : fW (cY Y S) noR h7 h9 := v8.trans (fw_i e9 (Or.inr (Or.inr (Or.inl ⟨hg, Or.inl ⟨by omega, rfl⟩⟩))))
          have y9 := YL_fw y7 v9
          refine xo_g y9.1 (xo_n y9.r20 (xo_g (y9.g20 hg) (xo_wz (by omega) (fun h10 e10 => ?_))))
          have v10 : fW (cY Y S) noR h7 h10 := v9.trans (fw_i e10 (Or.inr (Or.inr (Or.inl ⟨hg, Or.inl ⟨by omega, rfl⟩⟩))))
          have r10 : xi h10 (Y + 15) (snm S) = nI u ∧ xi h10 (Y + 16) (snm S) = nI l ∧ xi h10 (Y + 20) (snm S) = 0 := by
            refine ⟨?_, ?_, e_s e10⟩
            · rw [e_o e10 (Or.inl (by omega)), e_o e9 (Or.inl (by omega))]; exact e_s e8
            · rw [e_o e10 (Or.inl (by omega))]; exact e_s e9
          have b10 : ∀ k, k < sgn S u → xi h10 (Y + 12) (8 * snm S + k) = nI (tEl B (nxn B t 4) k) := fun k hk => by
            rw [e_o e10 (Or.inl (by omega)), e_o e9 (Or.inl (by omega)), e_o e8 (Or.inl (by omega))]
            exact q6 k hk
          have u8 := gu.1.2
          refine xlp_inv (Po := fun m => xo m _) (fun i s h' => s = nI i ∧ fW (fun a j => a = Y + 12 ∧ 48 + 64 * snm S ≤ j ∧ j < 48 + 64 * snm S + 64) noR h10 h' ∧ ∀ k, k < i → xi h' (Y + 12) (48 + 64 * snm S + k) = nI (k % 8)) 64 (by omega) (fun i s h11 ag hi I again => ?_) ⟨rfl, fW.refl _ _ _, fun k hk => absurd hk (Nat.not_lt_zero _)⟩
          obtain ⟨rfl, w11, d11⟩ := I
          have v11 : fW (cY Y S) noR h7 h11 := v10.trans (w11.wide (fun a j q => Or.inr (Or.inr (Or.inl ⟨hg, Or.inr ⟨q.1, Or.inr q.2⟩⟩))) (fun a j q => q))
          have y11 := YL_fw y7 v11
          by_cases c : i = 64
          · subst c
            have f11 : xi h11 Y 36 = nI (snm S) := (v11.i (fun q => by unfold cY oY at q; omega)).trans ((w7.i (fun q => by unfold eY oY at q; omega)).trans f6)
            refine xo_t (by decide) (xo_g y11.1 (xo_g y11.1 ?_))
            rw [f11, nI_s]
            refine xo_wi (fun h12 e12 => xo_v ⟨(w17.trans (fw_ya v11)).trans (fw_i e12 (Or.inr (Or.inl ⟨rfl, by omega, by omega⟩))), ?_⟩)
            have v12 : fW (fun a j => (a = Y ∧ j = 36) ∨ Y + 12 ≤ a) noR h7 h12 := ((((fw_i (R := noR) (A := fun a j => (a = Y ∧ j = 36) ∨ Y + 12 ≤ a) e8 (Or.inr (by omega))).trans (fw_i e9 (Or.inr (by omega)))).trans (fw_i e10 (Or.inr (by omega)))).trans (w11.wide (fun a j q => Or.inr (by omega)) (fun a j q => q))).trans (fw_i e12 (Or.inl ⟨rfl, rfl⟩))
            refine ⟨RLy_fw H7.1 v12 (fun a j q => by omega), (v12.i (fun q => by omega)).trans q1, ⟨nxn_wk (nxn_wk H.2.2.1.1 4) _, RTk_fw q3 v12 (fun j _ _ q => by omega)⟩, ?_⟩
            exact RQ_m (RQ_c ws _ _ v11 q4) ws a0 b0 e12 (RNn_c _ _ v11 q5) ⟨(w11.i (fun q => by omega)).trans r10.1, (w11.i (fun q => by omega)).trans r10.2.1, (w11.i (fun q => by omega)).trans r10.2.2⟩ (fun a ha => (w11.i (fun q => by omega)).trans (b10 a ha)) d11
          · refine xo_f (by rw [li64, nI_leP (by omega) (by omega)]; omega) (xo_g y11.1 (xo_n y11.r12 (xo_g (by decide) ?_)))
            have cx : ((48 : Int32) + 64 * nI (snm S)) + nI i = nI (48 + 64 * snm S + i) := by rw [li48, li64, nI_m, nI_a, nI_a]
            rw [cx]
            refine xo_g (y11.g12 (by omega)) ?_
            rw [xz_nI (by omega), li8, rem_nI (by omega) (by omega) (by omega), nI_s]
            refine xo_wi (fun h12 e12 => again (by omega) _ _ ⟨rfl, w11.trans (fw_i e12 ⟨rfl, by omega, by omega⟩), fun k hk => ?_⟩)
            by_cases z : k = i
            · rw [z]; exact e_s e12
            · rw [e_o e12 (Or.inr (by omega))]; exact d11 k (by omega)
  · by_cases c : snm S = 6
    · refine xo_t ?_ (jh _ _ ⟨rfl, ?_⟩)
      · rw [c]; rfl
      · rw [decide_eq_true c]; rfl
    · refine xo_f ?_ (jh _ _ ⟨rfl, ?_⟩)
      · rw [li6, nI_eqP (by omega) (by omega)]; exact c
      · rw [decide_eq_false c]; rfl
end RLI
