/-! The law: all modules. -/
set_option linter.unusedVariables false
section MOD2
variable {E : XG} {h h' h0 : XH} {X c : Nat} {gb mb ab : Nat → Nat} {S : SD} {T : ST}
theorem xo_j2 {α β γ : Type} {k : XH → XP α} {c g : Prop} [Decidable c] [Decidable g] {m1 : XP β} {G2 : β → XH → Prop} [∀ v h, Decidable (G2 v h)] {m2 : β → XH → XP γ} {R : XH → Prop} {Q : α → XH → Prop} (h1 : c → R h) (h2 : ¬ c → g ∧ xo m1 (fun v h' => G2 v h' ∧ xo (m2 v h') (fun _ h'' => R h''))) (hk : ∀ h', R h' → xo (k h') Q) : xo (xjn k fun j => if c then j h else xg g (xb m1 fun v h2 => xg (G2 v h2) (xb (m2 v h2) fun w h3 => j h3))) Q := by
  show xo (if c then k h else xg g (xb m1 fun v h2 => xg (G2 v h2) (xb (m2 v h2) fun w h3 => k h3))) Q
  by_cases hc : c
  · rw [if_pos hc]; exact hk _ (h1 hc)
  · rw [if_neg hc]
    obtain ⟨g1, g2⟩ := h2 hc
    exact xo_g g1 (xo_b g2 (fun v h2 q => xo_g q.1 (xo_b q.2 (fun w h3 r => hk _ r))))
theorem xo_jk {α : Type} {k : XH → XP α} {R : XH → Prop} {F : (XH → XP α) → XP α} {Q : α → XH → Prop} (hk : ∀ h, R h → xo (k h) Q) (hF : ∀ j : XH → XP α, (∀ h, R h → xo (j h) Q) → xo (F j) Q) : xo (xjn k F) Q := hF k hk
theorem xo_jk1 {α δ : Type} {k : δ → XH → XP α} {R : δ → XH → Prop} {F : (δ → XH → XP α) → XP α} {Q : α → XH → Prop} (hk : ∀ v h, R v h → xo (k v h) Q) (hF : ∀ j : δ → XH → XP α, (∀ v h, R v h → xo (j v h) Q) → xo (F j) Q) : xo (xjn k F) Q := hF k hk
theorem wJS25 : wJS 25 = [109] := by decide +kernel
theorem wmB_s (bd : Nat → Nat) (l : List Nat) (a : Nat) : wmB bd l (a + 1) = (wmB bd l a ++ [if a = 0 then 58 else 44]) ++ [48 + bd a] := rfl
theorem fixS_v (d : MD) (a : Nat) : fixS d a = orI (fun g => if dac d g a = a then sh g else 0) (dnl d) := rfl
theorem mods_o (q : GS h X c gb mb ab S T) (n : LN S) : xo (FL_modules E X c h) (fun v h' => v = 1 ∧ GS h' X c gb mb ab S T ∧ Gr (rXa X) 6800 208000 h h') := by
  have m4 := n.2.2.2.1
  unfold FL_modules
  refine xlp_inv (Po := fun m => xo m _) (fun m s h' => s = (sumI (fun k => if whS S T k = 0 ∧ flS S T k = k then 1 else 0) m, nI m) ∧ GS h' X c gb mb ab S T ∧ Gr (rXa X) (1700 * m) (52000 * m) h h') (snm S) (by omega) (fun m s h1 ag hm J again => ?_) ⟨rfl, q, Gr_refl _ h⟩
  obtain ⟨rfl, q1, gr1⟩ := J
  dsimp only
  refine xo_g q1.w.k ?_
  by_cases e : m = snm S
  · refine xo_t (by rw [q1.w.i6, e]; exact Int32.le_refl _) (xo_g q1.x.k (xo_b (q8_kinds q1.x) (fun v2 h3 z => ?_)))
    obtain ⟨rfl, i3⟩ := z
    obtain ⟨q3, g3⟩ := GS_iw q1 i3
    refine xo_jif ?_
    rw [e, if_pos rfl]
    exact xo_g (Or.inr rfl) (xo_v ⟨rfl, q3, Gr_more (Gr_trans (D := rXa X) gr1 g3 (fun _ z => z) (fun _ z _ => z)) (by omega) (by omega)⟩)
  · have hlt : m < snm S := by omega
    have M1 := q1.w.md hlt
    have u8 : nuS S m ≤ 8 := M1.w.1.2.1
    have l8 : nlS2 S m ≤ 8 := M1.w.1.2.2.2
    have w9 := whS_9 S T m
    have wd := M1.w.2.2.2.2.2
    refine xo_f (by rw [q1.w.i6]; exact nI_ge hlt (by omega)) (xo_g q1.w.k (xo_n q1.w.r2 ?_))
    rw [lmrow q1.w hlt]
    refine xo_g M1.k (xo_eb (show FX11_why E (mb m) h1 = xv (nI (whS S T m)) h1 from lwhy_v M1) ?_)
    refine xo_al (fun h11 e11 => ?_)
    have t1 := q1.t
    have g11 := Gr_ya (Gr_refl nD h1) 24 0
    rw [← e11] at g11
    have g11 : Gr nD 1 4 h1 h11 := g11
    have k11 : xk h11 (xt h1) = 24 := by rw [e11, xk_ya, if_pos rfl]
    have z11 : ∀ j, xi h11 (xt h1) j = 0 := fun j => by rw [e11, xi_ya, if_pos rfl]
    have t11 : xt h1 < xt h11 := by rw [e11]; exact Nat.lt_succ_self _
    obtain ⟨b, eb⟩ : ∃ b, b = xt h1 := ⟨_, rfl⟩
    rw [← eb] at k11 z11 t11 ⊢
    have st : ∀ {cc uu : Nat} {h2 : XH} {l : List Nat}, AP nD cc uu h1 b h2 l → GS h2 X c gb mb ab S T ∧ xk h2 b = 24 := fun p => by
      obtain ⟨A, a1, a2, a3⟩ := p
      exact ⟨GS_n q1 a3, a1.k⟩
    have nm := n.2.1 m hlt
    obtain ⟨l0, el0⟩ : ∃ l0, l0 = wmN (snn S 1 m) (snn S 1 m).length := ⟨_, rfl⟩
    have el1 : [109] ++ [97 + m] = l0 := by rw [el0, nm]; rfl
    have len0 : l0.length = 2 := by rw [← el1]; rfl
    refine xo_b (init_str g11 k11 z11 t11 (fun z => by omega) (i := 25) (by decide) (by rw [wJS25]; decide)) (fun _ h12 p12 => ?_)
    rw [wJS25] at p12
    refine xo_g (st p12).2 ?_
    rw [let26 m (by omega)]
    refine xo_b (app_char p12 (x := 97 + m) (by omega) (by simp)) (fun v13 h14 z => ?_)
    obtain ⟨e13, p14⟩ := z
    rw [e13]
    rw [el1] at p14
    refine xlp_inv (Po := fun m => xo m _) (fun y s h' => s = nI y ∧ AP nD (4 + 2 * y) (3744 + 3680 * y) h1 b h' (wmB (tbd T m) l0 y)) (nuS S m) (by omega) (fun y s h15 ag2 hy J again2 => ?_) ⟨rfl, p14⟩
    obtain ⟨rfl, p15⟩ := J
    obtain ⟨q15, k15⟩ := st p15
    have M15 := q15.w.md hlt
    have L15 : (wmB (tbd T m) l0 y).length = 2 + 2 * y := by rw [wmB_len, len0]
    refine xo_g M15.k (xo_n M15.r5 (xo_g M15.kb ?_))
    by_cases ey : y = nuS S m
    · refine xo_t (by rw [M15.nb, ey]; exact Int32.le_refl _) ?_
      rw [ey] at p15 L15
      refine xo_j2 (R := fun h17 => AP nD 22 36864 h1 b h17 (wmE (whS S T m) (wmB (tbd T m) l0 (nuS S m)))) (fun z => ?_) (fun z => ⟨k15, ?_⟩) (fun h17 p17 => ?_)
      · have w0 : whS S T m = 0 := by
          rw [li0, nI_leP (by omega) (by omega)] at z
          omega
        unfold wmE
        rw [if_pos w0]
        exact p15.more (by omega) (by omega)
      · have w0 : ¬ whS S T m = 0 := fun w => z (by rw [w]; exact Int32.le_refl _)
        refine xo_w (app_char p15 (x := 59) (by omega) (by omega)) (fun v65 h66 y => ?_)
        obtain ⟨e65, p66⟩ := y
        rw [e65]
        refine ⟨(st p66).2, xo_w (app_int p66 (v := whS S T m) (by omega) (by rw [List.length_append]; simp only [List.length_singleton]; omega)) (fun v67 h68 y => ?_)⟩
        unfold wmE
        rw [if_neg w0]
        exact y.2.more (by omega) (by omega)
      · -- the class's own text
        have L17 := wmE_len (whS S T m) (wmB (tbd T m) l0 (nuS S m))
        obtain ⟨q17, k17⟩ := st p17
        have M17 := q17.w.md hlt
        refine xo_g q17.x.k (xo_eb (q8_why q17.x hlt) (xo_jn (xo_t rfl (xo_g q17.x.k (xo_eb (q8_kernel q17.x hlt) (xo_g M17.k (xo_eb (lker_v M17) (xo_t rfl (xo_g q17.x.k (xo_eb (q8_image q17.x hlt) (xo_g M17.k (xo_eb (limg_v M17) (xo_t rfl (xo_g q17.x.k (xo_eb (q8_groupOf0 q17.x hlt) (xo_g M17.k (xo_t (q17.w.hi hlt).symm (xo_g q17.x.k (xo_eb (q8_groupOf1 q17.x hlt) (xo_g M17.k (xo_t (q17.w.lo hlt).symm (xo_g q17.x.k ?_))))))))))))))))))))))
        obtain ⟨A, a1, a2, a3⟩ := p17
        obtain ⟨⟨w9', s9, f9, Z, x9, z9, hl9, e1, e2, t9⟩, w7, o7⟩ := q17
        subst e1; subst e2
        obtain ⟨z10, c10⟩ := C_writeModule (E := E) x9 z9 hl9 hlt
        rw [← el0] at z10 c10
        refine xo_b c10 (fun v33 h34 y => ?_)
        obtain ⟨rfl, i34, w10, s10, f10, x34⟩ := y
        have hA : X + 223 ≤ A := by
          have := a2.2
          rcases Nat.lt_or_ge A (xt h1) with y | y
          · exact (this y).elim
          · omega
        have sb34 : SB h34 b A (wmE (whS (zS Z) (zT Z) m) (wmB (tbd (zT Z) m) l0 (nuS (zS Z) m))) := SB_iw a1 i34 (fun y => by unfold rXa at y; omega) (fun y => by unfold rXa at y; omega)
        have q34 : GS h34 X c gb mb ab (zS Z) (zT Z) := ⟨⟨w10, s10, f10, _, x34, z10, hl9, rfl, rfl, by rw [i34.t]; exact t9⟩, lW_sm w7 o7 (fun a y1 y2 => smC_iw i34 (fun y => by unfold rXa at y; omega)), o7⟩
        have gr34 : Gr (rXa X) 22 36864 h1 h34 := Gr_iw (Gr_wide a3 (fun _ y => y.elim) (Nat.le_refl _) (Nat.le_refl _)) i34 (fun a y => ⟨by unfold rXa at y; omega, fun _ => y⟩)
        refine xo_g sb34.k (xo_eb (len_v sb34) (xo_t rfl (xo_eb (txt_v x34 z10 sb34 rfl (fun _ _ => rfl)) (xo_f (by decide) ?_))))
        have q38 := GS_yx q34
        have M38 := q38.w.md hlt
        have gr38 : Gr (rXa X) (1700 * m + 23) (52000 * m + 36870) h (yx h34) := Gr_more (Gr_trans (D := rXa X) gr1 (Gr_yx gr34) (fun _ y => y) (fun _ y _ => y)) (by omega) (by omega)
        generalize zS Z = S at *
        generalize zT Z = T at *
        generalize yx h34 = h38 at *
        refine xo_g q38.x.k (xo_eb (q8_isCentral q38.x hlt) (xo_g M38.k (xo_eb (lker_v M38) (xo_g M38.k (xo_g q38.x.k ?_)))))
        rw [q38.w.hi hlt]
        refine xo_eb (q8_centre q38.x (q38.w.ws.2.2.1 m hlt).1) (xo_jif ?_)
        refine xo_t rfl ?_
        refine xo_jk (R := fun h47 => GS h47 X c gb mb ab S T ∧ Gr (rXa X) (1700 * m + 1023) (52000 * m + 44870) h h47) (fun h47 z => ?_) (fun j411 K => ?_)
        · obtain ⟨q47, g47⟩ := z
          refine xo_jk1 (R := fun v h49 => v = (if whS S T m = 0 ∧ flS S T m = m then (1 : Int32) else 0) ∧ GS h49 X c gb mb ab S T ∧ Gr (rXa X) (1700 * m + 1700) (52000 * m + 52000) h h49) (fun v48 h49 z => ?_) (fun j431 K => ?_)
          · obtain ⟨rfl, q49, g49⟩ := z
            refine xo_lt ?_
            rw [nI_s]
            exact again hlt _ _ ⟨by rw [sumI_s], q49, Gr_more g49 (by omega) (by omega)⟩
          · refine xo_jn ?_
            by_cases w0 : whS S T m = 0
            · refine xo_t (by rw [w0]; rfl) (xo_b (lk_o q47 hlt w0) (fun v52 h53 z => ?_))
              obtain ⟨rfl, g53⟩ := z
              have q53 := GS_n q47 g53
              have g53' : Gr (rXa X) (1700 * m + 1700) (52000 * m + 52000) h h53 := Gr_more (Gr_trans (D := rXa X) g47 g53 (fun _ z => z) (fun _ z _ => z.elim)) (by omega) (by omega)
              have fle : flS S T m ≤ m := fi_le _ _
              by_cases ef : flS S T m = m
              · exact xo_t (congrArg nI ef) (K _ _ ⟨(if_pos ⟨w0, ef⟩).symm, q53, g53'⟩)
              · exact xo_f (fun z => ef ((nI_eq (by omega) (by omega)).mp z)) (K _ _ ⟨(if_neg (fun z => ef z.2)).symm, q53, g53'⟩)
            · exact xo_f (by rw [nI_eq0 (by omega)]; exact w0) (K _ _ ⟨(if_neg (fun z => w0 z.1)).symm, q47, Gr_more g47 (by omega) (by omega)⟩)
        · refine xo_jn ?_
          by_cases w0 : whS S T m = 0
          · refine xo_t (by rw [w0]; rfl) (xo_b (prs_o q38 n hlt w0) (fun v63 h64 z => ?_))
            obtain ⟨rfl, q64, g64⟩ := z
            exact xo_f (by decide) (K _ ⟨q64, Gr_more (Gr_trans (D := rXa X) gr38 g64 (fun _ z => z) (fun _ z _ => z)) (by omega) (by omega)⟩)
          · refine xo_f (by rw [nI_eq0 (by omega)]; exact w0) (xo_b (thr_g q38 lc_7 (q8_classes2 q38.x hlt w0) (by omega)) (fun v55 h56 z => ?_))
            obtain ⟨rfl, q56, g56⟩ := z
            refine xo_t rfl (xo_b (thr_g q56 lc_11 (q8_profile2 q56.x hlt w0 _ _) (by omega)) (fun v57 h58 z => ?_))
            obtain ⟨rfl, q58, g58⟩ := z
            refine xo_t rfl (xo_b (thr_g q58 lc_14 (q8_largeTimes2 q58.x hlt w0 _ _) (by omega)) (fun v59 h60 z => ?_))
            obtain ⟨rfl, q60, g60⟩ := z
            refine xo_t rfl (xo_b (thr_g q60 lc_13 (q8_firstAlike2 q60.x hlt w0) (by omega)) (fun v61 h62 z => ?_))
            obtain ⟨rfl, q62, g62⟩ := z
            have r1 := Gr_trans (D := rXa X) gr38 g56 (fun _ z => z) (fun _ z _ => z.elim)
            have r2 := Gr_trans (D := rXa X) r1 g58 (fun _ z => z) (fun _ z _ => z.elim)
            have r3 := Gr_trans (D := rXa X) r2 g60 (fun _ z => z) (fun _ z _ => z.elim)
            have r4 := Gr_trans (D := rXa X) r3 g62 (fun _ z => z) (fun _ z _ => z.elim)
            exact xo_t rfl (K _ ⟨q62, Gr_more r4 (by omega) (by omega)⟩)
    · have hly : y < nuS S m := by omega
      have bl : tbd T m y < nlS2 S m := wd.1 y hly
      refine xo_f (by rw [M15.nb]; exact nI_ge hly M15.u8) (xo_jif ?_)
      have ev : (if nI y = (0 : Int32) then (58 : Int32) else 44) = nI (if y = 0 then 58 else 44) := by
        by_cases z : y = 0
        · rw [if_pos (by rw [z]; rfl), if_pos z]; rfl
        · rw [if_neg (by rw [nI_eq0 (by omega)]; exact z), if_neg z]; rfl
      rw [ev]
      refine xo_g k15 (xo_b (app_char p15 (x := if y = 0 then 58 else 44) (by split <;> omega) (by omega)) (fun v71 h72 z => ?_))
      obtain ⟨e71, p72⟩ := z
      rw [e71]
      obtain ⟨q72, k72⟩ := st p72
      have M72 := q72.w.md hlt
      refine xo_g M72.k (xo_n M72.r5 (xo_g (M72.bg hly) (xo_g k72 ?_)))
      rw [M72.bv hly]
      refine xo_b (app_int p72 (v := tbd T m y) (by omega) (by rw [List.length_append]; simp only [List.length_singleton]; omega)) (fun v74 h75 z => ?_)
      obtain ⟨-, p75⟩ := z
      obtain ⟨q75, k75⟩ := st p75
      have M := q75.w.md hlt
      refine xlp_inv (Po := fun m => xo m _) (fun g s h' => s = (orI (fun g => if tac T m g y = y then sh g else 0) g, orI (fun g => sh (tac T m g y)) g, nI g) ∧ h' = h75) (nlS2 S m) (by omega) (fun g s h76 ag3 hg J again3 => ?_) ⟨rfl, rfl⟩
      obtain ⟨rfl, rfl⟩ := J
      dsimp only
      refine xo_g M.k (xo_n M.r4 (xo_g M.a.1.1.1 ?_))
      by_cases eg : g = nlS2 S m
      · refine xo_t (by rw [M.a.1.1.2, eg]; exact Int32.le_refl _) (xo_g q75.x.k (xo_eb (q8_fixed q75.x hlt hly) (xo_jn (xo_t (by rw [eg]; rfl) (xo_g q75.x.k (xo_eb (q8_orbit q75.x hlt hly) (xo_t (by rw [eg]; rfl) ?_)))))))
        rw [nI_s]
        exact again2 hly _ _ ⟨rfl, by rw [wmB_s]; exact p75.more (by omega) (by omega)⟩
      · have hlg : g < nlS2 S m := by omega
        have al : tac T m g y < nuS S m := wd.2 g y hlg hly
        refine xo_f (by rw [M.a.1.1.2]; exact nI_ge hlg M.l8) (xo_g M.k (xo_n M.r4 ?_))
        rw [lrow M.a.1 M.l8 hlg]
        refine xo_g (lS_c M.a.1 hlg hly M.u8) (xo_jif (xo_lt (xo_g M.k (xo_n M.r4 ?_))))
        rw [lrow M.a.1 M.l8 hlg]
        refine xo_g (lS_c M.a.1 hlg hly M.u8) (xo_lt ?_)
        rw [lV_v M.a hlg hly M.u8, nI_s]
        refine again3 hlg _ _ ⟨?_, rfl⟩
        rw [orI_s, orI_s]
        congr 1
        congr 1
        show (if nI (tac T m g y) = nI y then 1 <<< (nI g &&& 31) else 0) = if tac T m g y = y then sh g else 0
        by_cases z : tac T m g y = y
        · rw [if_pos (congrArg nI z), if_pos z]; rfl
        · rw [if_neg (fun w => z ((nI_eq (by omega) (by omega)).mp w)), if_neg z]
end MOD2
