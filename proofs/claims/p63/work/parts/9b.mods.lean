/-! The law: pairs, modules. -/
set_option linter.unusedVariables false
/-- while the pairs of a module are held against the class -/
def PB (h0 : XH) (X c : Nat) (gb mb ab : Nat → Nat) (S : SD) (T : ST) (v3 v5 : Nat) (d : MD) (cc uu : Nat) (h : XH) : Prop := GS h X c gb mb ab S T ∧ (CLR h v3 d ∧ PRR h v5 d) ∧ ((X + 223 ≤ v3 ∧ v3 < xt h) ∧ X + 223 ≤ v5 ∧ v5 < xt h) ∧ Gr (rXa X) cc uu h0 h
section MODS
variable {E : XG} {h h' h0 : XH} {X c : Nat} {gb mb ab : Nat → Nat} {S : SD} {T : ST} {v3 v5 cc uu c1 u1 : Nat} {d : MD}
theorem PB_n (p : PB h0 X c gb mb ab S T v3 v5 d cc uu h) (g : Gr nD c1 u1 h h') : PB h0 X c gb mb ab S T v3 v5 d (cc + c1) (uu + u1) h' := by
  obtain ⟨p1, ⟨p2, p3⟩, ⟨⟨p4, p5⟩, p6, p7⟩, p8⟩ := p
  have t := g.t
  exact ⟨GS_n p1 g, ⟨CLR_sm p2 (g.s p5 (fun z => z)), PRR_sm p3 (g.s p7 (fun z => z))⟩, ⟨⟨p4, by omega⟩, p6, by omega⟩, Gr_trans p8 g (fun _ z => z) (fun _ z _ => z.elim)⟩
theorem PB_iw (p : PB h0 X c gb mb ab S T v3 v5 d cc uu h) (i : iw (rXP X) h h') : PB h0 X c gb mb ab S T v3 v5 d cc uu h' := by
  obtain ⟨p1, ⟨p2, p3⟩, ⟨⟨p4, p5⟩, p6, p7⟩, p8⟩ := p
  obtain ⟨q1, q2⟩ := GS_iw p1 i
  have nx : ∀ a, X + 223 ≤ a → ¬ rXP X a := fun a h1 h2 => by
    have := rXP_a h2
    unfold rXa at this
    omega
  exact ⟨q1, ⟨CLR_sm p2 (smC_iw i (nx _ p4)), PRR_sm p3 (smC_iw i (nx _ p6))⟩, ⟨⟨p4, by rw [i.t]; exact p5⟩, p6, by rw [i.t]; exact p7⟩, Gr_trans p8 q2 (fun _ z => z) (fun _ z _ => z)⟩
theorem PB.more (p : PB h0 X c gb mb ab S T v3 v5 d cc uu h) (h1 : cc ≤ c1) (h2 : uu ≤ u1) : PB h0 X c gb mb ab S T v3 v5 d c1 u1 h := ⟨p.1, p.2.1, p.2.2.1, Gr_more p.2.2.2 h1 h2⟩
theorem lk_o (q : GS h X c gb mb ab S T) {m : Nat} (hm : m < snm S) (h0 : whS S T m = 0) : xo (FL_like E c (nI m) h) (fun v h' => v = nI (flS S T m) ∧ Gr nD (166 * (m + 1)) (1348 * (m + 1)) h h') := by
  have m6 := q.w.m6
  have fle : flS S T m ≤ m := fi_le _ _
  have lm := q.lw hm h0
  unfold FL_like
  refine xlp_inv (Po := fun m => xo m _) (fun k s h' => s = nI k ∧ Gr nD (166 * k) (1348 * k) h h') (flS S T m) (by omega) (fun k s h1 ag hk J again => ?_) ⟨rfl, Gr_refl nD h⟩
  obtain ⟨rfl, g1⟩ := J
  have q1 := GS_n q g1
  have hks : k < snm S := by omega
  refine xo_g q1.w.k (xo_n q1.w.r2 ?_)
  rw [lmrow q1.w hks]
  refine xo_g (q1.w.md hks).k (xo_eb (lwhy_v (q1.w.md hks)) (xo_jn ?_))
  by_cases hw : whS S T k = 0
  · refine xo_t (by rw [show whyS (mdS S T k) = 0 from hw]; rfl) (xo_g q1.w.k (xo_n q1.w.r2 ?_))
    rw [lmrow q1.w hks]
    refine xo_g q1.w.k (xo_n q1.w.r2 ?_)
    rw [lmrow q1.w hm]
    refine xo_b (lalk_o (GS_mb q1 hks) (q.lw hks hw) (GS_mb q1 hm) lm) (fun v h2 z => ?_)
    obtain ⟨rfl, g2⟩ := z
    have g12 : Gr nD (166 * k + 166) (1348 * k + 1348) h h2 := Gr_trans g1 g2 (fun _ z => z) (fun _ z _ => z)
    by_cases ek : k = flS S T m
    · have al : alS (mdS S T k) (mdS S T m) = true := by
        by_cases el : flS S T m = m
        · rw [ek, el]; exact alS_refl _
        · have := fi_yes (m := m) (P := fun o => decide (whS S T o = 0) && alS (mdS S T o) (mdS S T m)) (show flS S T m < m by omega)
          rw [Bool.and_eq_true] at this
          rw [ek]; exact this.2
      refine xo_f (by rw [al]; decide) (xo_v ⟨by rw [ek], Gr_more g12 (by omega) (by omega)⟩)
    · have hlt : k < flS S T m := by omega
      have nf := fi_not (m := m) (P := fun o => decide (whS S T o = 0) && alS (mdS S T o) (mdS S T m)) hlt
      have al : alS (mdS S T k) (mdS S T m) = false := by
        rw [decide_eq_true hw, Bool.true_and] at nf
        exact nf
      refine xo_t (by rw [al]; rfl) ?_
      rw [nI_s]
      exact again hlt _ _ ⟨rfl, Gr_more g12 (by omega) (by omega)⟩
  · have hlt : k < flS S T m := by
      rcases Nat.lt_or_ge k (flS S T m) with z | z
      · exact z
      · exfalso
        have ek : k = flS S T m := by omega
        by_cases el : flS S T m = m
        · rw [ek, el] at hw; exact hw h0
        · have := fi_yes (m := m) (P := fun o => decide (whS S T o = 0) && alS (mdS S T o) (mdS S T m)) (show flS S T m < m by omega)
          rw [Bool.and_eq_true] at this
          have := of_decide_eq_true this.1
          rw [ek] at hw
          exact hw this
    have w9 := whS_9 S T k
    refine xo_f (by rw [nI_eq0 (show whyS (mdS S T k) < 2 ^ 31 from by have : whyS (mdS S T k) < 9 := w9; omega)]; exact hw) ?_
    rw [nI_s]
    exact again hlt _ _ ⟨rfl, Gr_more g1 (by omega) (by omega)⟩
theorem prs_o (q : GS h X c gb mb ab S T) (n : LN S) {m : Nat} (hm : m < snm S) (h0 : whS S T m = 0) : xo (FL_pairs E X c (nI m) h) (fun v h' => v = 1 ∧ GS h' X c gb mb ab S T ∧ Gr (rXa X) 1000 8000 h h') := by
  have m4 := n.2.2.2.1
  have lm := q.lw hm h0
  have u8 := lm.1.1.2.1
  have l8 := lm.l8
  have c8 := ccN_8 lm
  have en : nlS2 S m = dnl (mdS S T m) := rfl
  have eu : nuS S m = dnu (mdS S T m) := rfl
  have t0 := q.t
  unfold FL_pairs
  refine xo_g q.w.k (xo_n q.w.r2 ?_)
  rw [lmrow q.w hm]
  refine xo_g (q.w.md hm).k (xo_b (lcls_o (GS_mb q hm) lm) (fun v3 h4 z => ?_))
  obtain ⟨rfl, t4, g4, r4⟩ := z
  have q4 := GS_n q g4
  refine xo_g (q4.w.md hm).k (xo_b (lpair_o (GS_mb q4 hm) lm) (fun v5 h6 z => ?_))
  obtain ⟨rfl, ⟨t6, g6⟩, r6⟩ := z
  have q6 := GS_n q4 g6
  have p6 : PB h X c gb mb ab S T (xt h) (xt h4) (mdS S T m) 84 682 h6 := ⟨q6, ⟨CLR_sm r4 (g6.s (by omega) (fun z => z)), r6⟩, ⟨⟨t0, by omega⟩, by omega, t6⟩, Gr_trans (Gr_wide (D := rXa X) g4 (fun _ z => z.elim) (Nat.le_refl _) (Nat.le_refl _)) g6 (fun _ z => z) (fun _ z _ => z.elim)⟩
  generalize xt h = v3 at *
  generalize xt h4 = v5 at *
  refine xo_g (q6.w.md hm).k (xo_b (lmany_o (GS_mb q6 hm) lm) (fun v7 h8 z => ?_))
  obtain ⟨rfl, g8⟩ := z
  have p8 := PB_n p6 g8
  refine xo_g p8.1.x.k (xo_b (q8_classes p8.1.x hm h0) (fun v9 h10 z => ?_))
  obtain ⟨rfl, i10⟩ := z
  have p10 := PB_iw p8 i10
  refine xo_jn (xo_t rfl (xo_g p10.1.x.k (xo_b (q8_firstAlike p10.1.x hm h0) (fun v12 h13 z => ?_))))
  obtain ⟨rfl, i13⟩ := z
  have p13 := PB_iw p10 i13
  refine xo_b (lk_o p13.1 hm h0) (fun v14 h15 z => ?_)
  obtain ⟨rfl, g15⟩ := z
  have p15 : PB h X c gb mb ab S T v3 v5 (mdS S T m) 749 6082 h15 := (PB_n p13 g15).more (by omega) (by omega)
  clear p6 p8 p10 p13 q6 q4 g4 g6 r4 r6
  refine xo_t rfl ?_
  -- the classes of the elements
  refine xlp_inv (Po := fun m => xo m _) (fun g s h' => s = nI g ∧ PB h X c gb mb ab S T v3 v5 (mdS S T m) 749 6082 h') (nlS2 S m) (by omega) (fun g s h16 ag hg J again => ?_) ⟨rfl, p15⟩
  obtain ⟨rfl, p16⟩ := J
  have r16 := p16.2.1.1
  refine xo_g r16.1 ?_
  by_cases eg : g = nlS2 S m
  · refine xo_t (by rw [r16.2.1, eg]; exact Int32.le_refl _) ?_
    -- the products of classes, their acts
    refine xlp_inv (Po := fun m => xo m _) (fun a s h' => s = nI a ∧ PB h X c gb mb ab S T v3 v5 (mdS S T m) (749 + 24 * a) (6082 + 192 * a) h') (ccN (mdS S T m)) (by omega) (fun a s h17 ag2 ha J again2 => ?_) ⟨rfl, p16⟩
    obtain ⟨rfl, p17⟩ := J
    by_cases ea : a = ccN (mdS S T m)
    · refine xo_t (by rw [ea]; exact Int32.le_refl _) ?_
      -- the profiles
      refine xlp_inv (Po := fun m => xo m _) (fun i s h' => s = nI (1 + i) ∧ PB h X c gb mb ab S T v3 v5 (mdS S T m) 941 7618 h') 8 (by omega) (fun i s h18 ag3 hi J again3 => ?_) ⟨rfl, p17.more (by omega) (by omega)⟩
      obtain ⟨rfl, p18⟩ := J
      by_cases ei : i = 8
      · subst ei
        refine xo_t (by decide) (xo_b (thr_gq p18.1 lc_9 (q8_classTimes3 p18.1.x hm h0 (inrF _ (by omega)) 0) (by omega)) (fun v19 h20 z => ?_))
        obtain ⟨rfl, q20, g20⟩ := z
        refine xo_jn (xo_jn (xo_t rfl (xo_b (thr_gq (m := FX8_profile E X (nI m) 0 9 h20) q20 lc_11 ⟨_, _, q8_profile3 q20.x hm h0 0, rfl, iw.refl _ _⟩ (by omega)) (fun v24 h25 z => ?_))))
        obtain ⟨rfl, q25, g25⟩ := z
        have nx : ∀ a, X + 223 ≤ a → ¬ rXa X a := fun a h1 h2 => by unfold rXa at h2; omega
        have b18 := p18.2.2.1.1
        have r25 : CLR h25 v3 (mdS S T m) := CLR_sm p18.2.1.1 (smC_t (g20.s b18.2 (nx _ b18.1)) (g25.s (by have := g20.t; omega) (nx _ b18.1)))
        refine xo_t rfl (xo_g r25.1 ?_)
        rw [r25.2.1, ofNat_nI]
        refine xo_b (thr_g q25 lc_8 (q8_classOf1 q25.x hm (inrF _ (by omega))) (by omega)) (fun v26 h27 z => ?_)
        obtain ⟨rfl, q27, g27⟩ := z
        refine xo_t rfl (xo_g (Or.inr rfl) (xo_v ⟨rfl, q27, ?_⟩))
        have r1 := Gr_trans (D := rXa X) p18.2.2.2 g20 (fun _ z => z) (fun _ z _ => z)
        have r2 := Gr_trans (D := rXa X) r1 g25 (fun _ z => z) (fun _ z _ => z)
        have r3 := Gr_trans (D := rXa X) r2 g27 (fun _ z => z) (fun _ z _ => z.elim)
        exact Gr_more r3 (by omega) (by omega)
      · have hi8 : i < 8 := by omega
        have r18 := p18.2.1.2
        refine xo_f (show ¬ (9 : Int32) ≤ nI (1 + i) by rw [show (9 : Int32) = nI 9 from rfl, nI_leP (by omega) (by omega)]; omega) (xo_g p18.1.x.k (xo_b (q8_profile0 p18.1.x hm h0 (k := 1 + i) (by omega) (by omega)) (fun v28 h29 z => ?_)))
        obtain ⟨rfl, i29⟩ := z
        have p29 := PB_iw p18 i29
        have r29 := p29.2.1.2
        refine xo_g ⟨r29.1.1, by rw [r29.1.2]; exact xin_nI (by omega) (by omega)⟩ (xo_jn (xo_t (by rw [xz_nI (by omega)]; exact (r29.2.2 _ (by omega) (by omega)).1.symm) (xo_g p29.1.x.k (xo_b (q8_profile1 p29.1.x hm h0 (k := 1 + i) (by omega) (by omega)) (fun v31 h32 z => ?_)))))
        obtain ⟨rfl, i32⟩ := z
        have p32 := PB_iw p29 i32
        have r32 := p32.2.1.2
        have e9 : 9 + nI (1 + i) = nI (9 + (1 + i)) := nI_a 9 _
        rw [e9]
        refine xo_g ⟨r32.1.1, by rw [r32.1.2]; exact xin_nI (by omega) (by omega)⟩ (xo_t (by rw [xz_nI (by omega)]; exact (r32.2.2 _ (by omega) (by omega)).2.symm) ?_)
        rw [nI_s]
        exact again3 hi8 _ _ ⟨rfl, p32⟩
    · have hla : a < ccN (mdS S T m) := by omega
      refine xo_f (nI_ge hla (by omega)) ?_
      refine xlp_inv (Po := fun m => xo m _) (fun b s h' => s = nI b ∧ PB h X c gb mb ab S T v3 v5 (mdS S T m) (749 + 24 * a + 2 * b) (6082 + 192 * a + 16 * b) h') (ccN (mdS S T m)) (by omega) (fun b s h33 ag3 hb J again3 => ?_) ⟨rfl, p17⟩
      obtain ⟨rfl, p33⟩ := J
      by_cases eb : b = ccN (mdS S T m)
      · refine xo_t (by rw [eb]; exact Int32.le_refl _) ?_
        refine xlp_inv (Po := fun m => xo m _) (fun y s h' => s = nI y ∧ PB h X c gb mb ab S T v3 v5 (mdS S T m) (749 + 24 * a + 16 + y) (6082 + 192 * a + 128 + 8 * y) h') (nuS S m) (by omega) (fun y s h34 ag4 hy J again4 => ?_) ⟨rfl, p33.more (by omega) (by omega)⟩
        obtain ⟨rfl, p34⟩ := J
        have M := p34.1.w.md hm
        refine xo_g M.k (xo_n M.r5 (xo_g M.kb ?_))
        by_cases ey : y = nuS S m
        · refine xo_t (by rw [M.nb, ey]; exact Int32.le_refl _) ?_
          rw [nI_s]
          exact again2 hla _ _ ⟨rfl, p34.more (by omega) (by omega)⟩
        · have hly : y < nuS S m := by omega
          have bl := lm.bl hly
          refine xo_f (by rw [M.nb]; exact nI_ge hly (by omega)) (xo_g M.k (xo_n M.r5 (xo_g (M.bg hly) (xo_jn (xo_jn ?_)))))
          rw [M.bv hly]
          by_cases ez : dbd (mdS S T m) y = 0
          · refine xo_t (by rw [ez]; rfl) (xo_g p34.1.x.k (xo_b (q8_classAct p34.1.x hm h0 hla hly ez) (fun v41 h42 z => ?_)))
            obtain ⟨rfl, i42⟩ := z
            have p42 := PB_iw p34 i42
            have M42 := p42.1.w.md hm
            refine xo_g M42.k (xo_n M42.r4 (xo_g M42.k (xo_b (llst_o (GS_mb p42.1 hm) lm hla) (fun v44 h45 z => ?_))))
            obtain ⟨rfl, g45⟩ := z
            have p45 := PB_n p42 g45
            have M45 := p45.1.w.md hm
            have hls := lm.ls hla
            rw [lrow M45.a.1 (by omega) hls]
            refine xo_g (lS_c M45.a.1 hls hly (by omega)) (xo_t (lV_v M45.a hls hly (by omega)).symm ?_)
            rw [nI_s]
            exact again4 hly _ _ ⟨rfl, p45.more (by omega) (by omega)⟩
          · refine xo_f (by rw [nI_eq0 (by omega)]; exact ez) (xo_b (thr_gq p34.1 lc_10 (q8_classAct3 p34.1.x hm h0 hla hly ez) (by omega)) (fun v39 h40 z => ?_))
            obtain ⟨rfl, q40, g40⟩ := z
            refine xo_t rfl ?_
            rw [nI_s]
            have nx : ∀ a, X + 223 ≤ a → ¬ rXa X a := fun a h1 h2 => by unfold rXa at h2; omega
            obtain ⟨-, ⟨s1, s2⟩, ⟨⟨b1, b2⟩, b3, b4⟩, s5⟩ := p34
            have t40 := g40.t
            exact again4 hly _ _ ⟨rfl, q40, ⟨CLR_sm s1 (g40.s b2 (nx _ b1)), PRR_sm s2 (g40.s b4 (nx _ b3))⟩, ⟨⟨b1, by omega⟩, b3, by omega⟩, Gr_more (Gr_trans (D := rXa X) s5 g40 (fun _ z => z) (fun _ z _ => z)) (by omega) (by omega)⟩
      · have hlb : b < ccN (mdS S T m) := by omega
        refine xo_f (nI_ge hlb (by omega)) (xo_g p33.1.x.k (xo_b (q8_classTimes p33.1.x hm h0 hla hlb) (fun v47 h48 z => ?_)))
        obtain ⟨rfl, i48⟩ := z
        have p48 := PB_iw p33 i48
        have M48 := p48.1.w.md hm
        refine xo_g M48.k (xo_n M48.r3 (xo_g M48.k (xo_b (llst_o (GS_mb p48.1 hm) lm hla) (fun v50 h51 z => ?_))))
        obtain ⟨rfl, g51⟩ := z
        have p51 := PB_n p48 g51
        have M51 := p51.1.w.md hm
        have hls := lm.ls hla
        have hls2 := lm.ls hlb
        rw [lrow M51.l.1 (by omega) hls]
        refine xo_g M51.k (xo_b (llst_o (GS_mb p51.1 hm) lm hlb) (fun v53 h54 z => ?_))
        obtain ⟨rfl, g54⟩ := z
        have p54 := PB_n p51 g54
        have M54 := p54.1.w.md hm
        have r54 := p54.2.1.1
        have tl := lm.gl.cl hls hls2
        refine xo_g (lS_c M54.l.1 hls hls2 (by omega)) ?_
        rw [lV_v M54.l hls hls2 (by omega)]
        refine xo_g ⟨r54.1, by rw [r54.2.1]; exact xin_nI tl (by omega)⟩ (xo_t (by rw [xz_nI (by omega), r54.2.2 _ tl]; rfl) ?_)
        rw [nI_s]
        exact again3 hlb _ _ ⟨rfl, p54.more (by omega) (by omega)⟩
  · have hlg : g < nlS2 S m := by omega
    refine xo_f (by rw [r16.2.1]; exact nI_ge hlg (by omega)) (xo_g p16.1.x.k (xo_b (q8_classOf p16.1.x hm h0 hlg) (fun v55 h56 z => ?_)))
    obtain ⟨rfl, i56⟩ := z
    have p56 := PB_iw p16 i56
    have r56 := p56.2.1.1
    refine xo_g ⟨r56.1, by rw [r56.2.1]; exact xin_nI hlg (by omega)⟩ (xo_t (by rw [xz_nI (by omega)]; exact (r56.2.2 _ hlg).symm) ?_)
    rw [nI_s]
    exact again hlg _ _ ⟨rfl, p56⟩
end MODS
