/-! The law: it ends, and answers 1. -/
set_option linter.unusedVariables false
section LAW
variable {E : XG} {h h' : XH} {X c d s n k A : Nat} {gb bm ab : Nat → Nat} {l : List Nat} {S : SD} {T : ST}
/-- ahead of the telling -/
def PK (h : XH) (X c : Nat) (gb bm ab : Nat → Nat) (S : SD) (T : ST) (d s n k A : Nat) (l : List Nat) : Prop := (XI h X (X + 2) (X + 106) 0 Z0 ∧ X + 223 ≤ xt h) ∧ (lW h c gb bm ab S T ∧ lO c gb bm ab S X) ∧ (DR h d s n k ∧ d < c ∧ s < d) ∧ xr h c 0 = some (c + 1) ∧ SB h (c + 1) A l ∧ c < A ∧ A < X
theorem PK_n {cc uu : Nat} (p : PK h X c gb bm ab S T d s n k A l) (g : Gr nD cc uu h h') : PK h' X c gb bm ab S T d s n k A l := by
  obtain ⟨⟨p1, p2⟩, ⟨p3, p4⟩, ⟨p5, p6, p7⟩, p8, p9, p10, p11⟩ := p
  have o4 := p4.2.2.2
  have sm : ∀ a, a < xt h → smC a h h' := fun a ha => g.s ha (fun y => y)
  exact ⟨⟨XI_gr p1 g p2 (fun _ _ _ z => z), Nat.le_trans p2 g.t⟩, ⟨lW_sm p3 p4 (fun a a1 a2 => sm a (by omega)), p4⟩, ⟨DR_sm p5 (sm d (by omega)) (sm s (by omega)), p6, p7⟩, ((sm c (by omega)).2.2.2 0).trans p8, SB_sm p9 (sm _ (by omega)) (sm _ (by omega)) g.t, p10, p11⟩
theorem PK_thr {p a b cc e : Int32} {m : XP Int32} {q : Nat} (g : PK h X c gb bm ab S T d s n k A l) (el : FL_calls E X p a b cc e h = xg (xk h X = 9) (xb m fun v h2 => xv (Int32.toInt64 v) h2)) (em : m = xx q h) (hq : q < 3) : xo (FL_thrown E X p a b cc e h) (fun v h2 => v = nI (q + 1) ∧ PK h2 X c gb bm ab S T d s n k A l ∧ CU 1 6 h h2) :=
  ⟨_, _, thr_x g.1.1.k el em hq, rfl, PK_n g (Gr_yx (Gr_refl nD h)), Nat.le_succ _, Nat.le_refl _, Nat.le_refl _⟩
theorem undo_0 {w s' f : Nat} {Z : ZD} (x : XI h X w s' f Z) (e : zun Z = 0) : FX8_undo E X h = xx 0 h := by
  have i9 : xi h X 9 = 0 := by rw [x.2.2.2.2.1.1.2.2, e]; rfl
  unfold FX8_undo
  rw [xg_t x.k, if_neg (by rw [i9]; decide)]
theorem G2_gs {cc uu : Nat} (g : G2 h X c gb bm ab S T T d s n k) (q : GS h' X c gb bm ab S T) (r : Gr (rXa X) cc uu h h') : G2 h' X c gb bm ab S T T d s n k := by
  have t := g.x.t
  have o4 := g.o.2.2.2
  obtain ⟨g1, g2, g3, g4⟩ := g
  exact ⟨q, DR_sm g2 (r.s (by omega) (fun y => by unfold rXa at y; omega)) (r.s (by omega) (fun y => by unfold rXa at y; omega)), g3, g4⟩
theorem G2_nx (g : G2 h X c gb bm ab S T T d s n k) (hk : k < 1000000) {lo hi : Nat} {e0 e : Int32} (h0 : e0 = nI lo) (h1 : e = nI hi) (hl : lo ≤ hi) (h2 : hi < 1000) : xo (FX10_next E d e0 e h) (fun v h' => (∃ x, v = nI x ∧ lo ≤ x ∧ x ≤ hi) ∧ G2 h' X c gb bm ab S T T d s n (k + 1) ∧ CU 0 0 h h') := by
  subst h0; subst h1
  obtain ⟨⟨g1, g2, g3⟩, g4, g5, g6⟩ := g
  have o4 := g3.2.2.2
  refine xo_w (next_o (E := E) g4 (by omega) hl h2) (fun v h' y => ?_)
  obtain ⟨⟨x, y1, y2, y3⟩, rfl⟩ := y
  have sm : ∀ a, ¬ a = d → smC a h (yi h d 1 (nI (k + 1))) := fun a q => smC_yi q
  refine ⟨⟨x, y1, y2, y3⟩, ⟨⟨?_, lW_sm g2 g3 (fun a a1 a2 => sm a (by omega)), g3⟩, ⟨⟨g4.1.1, g4.1.2.1, xi_yi1 _ _ _ _⟩, g4.2⟩, g5, g6⟩, CU.yi _ _ _⟩
  obtain ⟨w, s', f, Z, x1, z, hl, e1, e2, t⟩ := g1
  exact ⟨w, s', f, Z, XI_sm x1 (fun a a1 a2 => sm a (by omega)), z, hl, e1, e2, t⟩
theorem law_o {p1 : Nat} (hs : xk h s = 27 ∧ xn h s = n) (hn : n < 10000) (ts : s < xt h) : xo (FL_law E s p1 h) (fun v h' => v = 1 ∧ CU 60000 4000000 h h') := by
  unfold FL_law
  refine xo_al (fun h2 e2 => ?_)
  obtain ⟨d, ed⟩ : ∃ d, d = xt h := ⟨_, rfl⟩
  rw [← ed]
  have g2 := Gr_ya (Gr_refl nD h) 21 0
  rw [← e2] at g2
  have g2 : Gr nD 1 20 h h2 := Gr_more g2 (by omega) (by decide)
  have k2 : xk h2 d = 21 := by rw [e2, xk_ya, if_pos ed]
  have i2 : ∀ j, xi h2 d j = 0 := fun j => by rw [e2, xi_ya, if_pos ed]
  have t2 : xt h2 = d + 1 := by rw [e2, xt_ya]; omega
  refine xo_eb (v := ()) (h := yr h2 d 0 (some s)) (show FX10_init E d s h2 = xv () (yr h2 d 0 (some s)) from by unfold FX10_init; rw [xg_t k2]; rfl) ?_
  obtain ⟨h3, e3⟩ : ∃ h3, h3 = yr h2 d 0 (some s) := ⟨_, rfl⟩
  rw [← e3]
  have ss := g2.s (a := s) (by omega) (fun y => y)
  have dr3 : DR h3 d s n 0 := ⟨⟨by rw [e3]; exact k2, by rw [e3, xr_yr1], by rw [e3, xi_yr]; exact i2 1⟩, ⟨by rw [e3]; exact ss.1.1.trans hs.1, by rw [e3]; exact ss.1.2.trans hs.2⟩, hn⟩
  have t3 : xt h3 = d + 1 := by rw [e3, xt_yr]; exact t2
  have g3 := Gr_yr (a := d) (k := 0) (x := some s) g2 (fun y => by omega)
  rw [← e3] at g3
  clear e2 e3
  refine xo_al (fun h5 e5 => ?_)
  rw [t3]
  have g5 := Gr_ya g3 23 0
  rw [← e5] at g5
  have g5 : Gr nD 2 40 h h5 := Gr_more g5 (by omega) (by decide)
  have k5 : xk h5 (d + 1) = 23 := by rw [e5, xk_ya, if_pos t3.symm]
  have i5 : ∀ j, xi h5 (d + 1) j = 0 := fun j => by rw [e5, xi_ya, if_pos t3.symm]
  have t5 : xt h5 = d + 1 + 1 := by rw [e5, xt_ya]; omega
  have dr5 : DR h5 d s n 0 := DR_sm dr3 (by rw [e5]; exact smC_ya (by omega)) (by rw [e5]; exact smC_ya (by omega))
  obtain ⟨c, ec⟩ : ∃ c, c = d + 1 := ⟨_, rfl⟩
  rw [← ec] at k5 i5 t5 ⊢
  refine xo_b (winit_o (E := E) t5 k5 i5 dr5 (by omega) (by omega)) (fun _ h6 y => ?_)
  obtain ⟨gb, bm, ab, S, T, l, nl, k, Dd, w6, ⟨⟨q1, q3⟩, ⟨m1, m4⟩, a3⟩, hl, hnl, hk, cu6⟩ := y
  have cu6 := (CU_gr g5).trans cu6
  clear e5 g5 g3 g2 dr5 dr3 k5 i5 t5
  refine xo_al (fun h8 e8 => ?_)
  obtain ⟨X, eX⟩ : ∃ X, X = xt h6 := ⟨_, rfl⟩
  rw [← eX]
  have g8 := Gr_ya (Gr_refl nD h6) 9 0
  rw [← e8] at g8
  have g8 : Gr nD 1 20 h6 h8 := Gr_more g8 (by omega) (by decide)
  have k8 : xk h8 X = 9 := by rw [e8, xk_ya, if_pos eX]
  have i8 : ∀ j, xi h8 X j = 0 := fun j => by rw [e8, xi_ya, if_pos eX]
  have t8 : xt h8 = X + 1 := by rw [e8, xt_ya]; omega
  refine xo_b (xinit_o (E := E) t8 k8 i8) (fun _ h9 y => ?_)
  obtain ⟨⟨t9, s9, x9⟩, c9⟩ := y
  obtain ⟨⟨lw6, o6⟩, ⟨dr6, d1, d2⟩, ⟨r6, A, sb6, hA⟩, rd, N⟩ := w6
  rw [← eX] at o6
  have o4 := o6.2.2.2
  have b1 := sb6.2.2.1
  rw [← eX] at b1
  have s69 : ∀ a, a < X → smC a h6 h9 := fun a ha => smC_t (g8.s (by omega) (fun y => y)) (s9 a ha)
  have P9 : PK h9 X c gb bm ab S T d s n k A l := ⟨⟨x9, by omega⟩, ⟨lW_sm lw6 o6 (fun a a1 a2 => s69 a a2), o6⟩, ⟨DR_sm dr6 (s69 d (by omega)) (s69 s (by omega)), d1, d2⟩, ((s69 c (by omega)).2.2.2 0).trans r6, SB_sm sb6 (s69 _ (by omega)) (s69 _ (by omega)) (by omega), hA, by omega⟩
  have c9 : CU 222 9489 h8 h9 := ⟨by omega, by rw [c9.1]; exact Nat.le_refl _, by rw [c9.2]; exact Nat.le_refl _⟩
  have cu9 : CU 1400 1810000 h h9 := (cu6.trans ((CU_gr g8).trans c9)).more (by omega) (by omega)
  clear s69 s9 t9 t8 i8 k8 g8 e8 cu6 c9 sb6 r6 dr6 lw6
  refine xo_b (PK_thr P9 lc_0 (c8_count0 x9 rfl 0) (by decide)) (fun v10 h11 y => ?_)
  obtain ⟨rfl, P11, c11⟩ := y
  refine xo_jn (xo_t rfl (xo_b (PK_thr P11 lc_6 (c8_why0 P11.1.1 rfl 0) (by decide)) (fun v13 h14 y => ?_)))
  obtain ⟨rfl, P14, c14⟩ := y
  refine xo_t rfl (xo_b (PK_thr P14 lc_30 (undo_0 P14.1.1 rfl) (by decide)) (fun v15 h16 y => ?_))
  obtain ⟨rfl, P16, c16⟩ := y
  refine xo_t rfl (xo_b (PK_thr P16 lc_23 (c8_textByte1 P16.1.1 Z0_wz (k := 0) (Nat.le_refl _) (by omega)) (by decide)) (fun v17 h18 y => ?_))
  obtain ⟨rfl, P18, c18⟩ := y
  have cu18 : CU 1410 1810100 h h18 := (cu9.trans (c11.trans (c14.trans (c16.trans c18)))).more (by omega) (by omega)
  clear P16 P14 P11 P9 c11 c14 c16 c18 cu9 x9
  obtain ⟨⟨x18, t18⟩, ⟨lw18, -⟩, ⟨dr18, -, -⟩, r18, sb18, -, -⟩ := P18
  refine xo_t rfl (xo_g x18.k (xo_eb (v := 0) (h := h18) (show FX8_undoable E X h18 = xv 0 h18 from by unfold FX8_undoable; rw [xg_t x18.k, x18.2.2.2.2.1.1.2.2]; rfl) (xo_t rfl (xo_g lw18.k (xo_n r18 (xo_g sb18.k (xo_b (toS (E := E) (D := fun a => a = c + 1 ∨ a = A) (h0 := h18) (c := 0) (u := 0) ⟨A, sb18, ⟨fun _ => Or.inl rfl, fun _ => Or.inr rfl⟩, Gr_refl _ h18⟩ (by omega)) (fun v22 h23 y => ?_))))))))
  obtain ⟨rfl, sr, t23, g23⟩ := y
  have kb := sb18.k
  have kA := sb18.ka
  have x23 := XI_gr x18 g23 t18 (fun a a1 a2 y => by omega)
  have lw23 : lW h23 c gb bm ab S T := lW_sk lw18 o6 (fun a a1 a2 n1 n2 => g23.s (by omega) (fun y => by
    rcases y with rfl | rfl
    · exact n1 kb
    · exact n2 kA))
  have dr23 : DR h23 d s n k := DR_sm dr18 (g23.s (by omega) (by omega)) (g23.s (by omega) (by omega))
  refine xo_b (tell_o (E := E) (V := xt h18 + 1) ⟨X + 2, X + 106, 0, Z0, x23, Z0_wz, rfl, fun i hi => absurd hi (Nat.not_lt_zero _)⟩ (by omega) sr hl (by omega) (by omega) (by omega) (by omega) rd (by omega) lw23.ws N) (fun v24 h25 y => ?_)
  obtain ⟨rfl, ⟨T', te, xq⟩, ⟨j2, j3⟩, s25, c25⟩ := y
  have lw25 : lW h25 c gb bm ab S T' := lW_te (lW_sm lw23 o6 (fun a a1 a2 => s25 a a2)) te
  have g25 : G2 h25 X c gb bm ab S T' T' d s n k := ⟨⟨xq, lw25, o6⟩, DR_sm dr23 (s25 d (by omega)) (s25 s (by omega)), d1, d2⟩
  have cu25 : CU 1500 1812000 h h25 := (cu18.trans ((CU_gr g23).trans c25)).more (by omega) (by omega)
  clear s25 c25 g23 sr dr23 lw23 x23 dr18 lw18 x18 sb18 cu18 te
  have ln : LN S := ⟨N.1, N.2.1, q3, m4, a3⟩
  refine xo_g lw25.k (xo_jn (xo_t (by rw [lw25.i6]) (xo_g xq.k (xo_eb (v := 0) (h := h25) (show FX8_parseError E X h25 = xv 0 h25 from by unfold FX8_parseError; rw [xg_t xq.k, j2]) (xo_t rfl (xo_g xq.k (xo_eb (v := -1) (h := h25) (show FX8_errorPosition E X h25 = xv (-1) h25 from by unfold FX8_errorPosition; rw [xg_t xq.k, j3]) (xo_t rfl (xo_eb (like_v g25.1) (xo_f (by decide) (xo_b (grp_o (E := E) g25.1 ln) (fun v33 h34 y => ?_))))))))))))
  obtain ⟨rfl, gs34, r34⟩ := y
  have g34 := G2_gs g25 gs34 r34
  have cu34 := cu25.trans (CU_gr r34)
  refine xo_f (by decide) (xo_g g34.kd (xo_b (G2_nx (E := E) g34 (by omega) (lo := 1) (hi := 6) rfl rfl (by omega) (by omega)) (fun v35 h36 y => ?_)))
  obtain ⟨⟨x, rfl, x1, x6⟩, g36, c36⟩ := y
  have cu36 : CU 2000 2300000 h h36 := (cu34.trans c36).more (by omega) (by omega)
  refine xlp_inv (Po := fun m => xo m _) (fun j (st : Int32) h' => ∃ T k, st = nI (x - j) ∧ G2 h' X c gb bm ab S T T d s n k ∧ k ≤ 300 + 20 * j ∧ CU (2000 + 6802 * j) (2300000 + 208012 * j) h h') x (by omega) (fun j st h37 ag hj J again => ?_) ⟨T', _, rfl, g36, by omega, cu36⟩
  obtain ⟨T, k, rfl, g37, hk, cu37⟩ := J
  by_cases e : j = x
  · refine xo_t (by rw [li0, nI_leP (by omega) (by omega)]; omega) (xo_b (G2_thr (E := E) g37 lc_0 (q8_count3 g37.x) (by decide)) (fun v38 h39 y => ?_))
    obtain ⟨rfl, g39, c39⟩ := y
    refine xo_jn (xo_t rfl (xo_b (G2_thr (E := E) g39 lc_1 (q8_letter3 g39.x 0 0) (by decide)) (fun v41 h42 y => ?_)))
    obtain ⟨rfl, g42, c42⟩ := y
    refine xo_t rfl (xo_g g42.w.k ?_)
    rw [g42.w.i5]
    refine xo_b (G2_thr (E := E) g42 lc_1 (q8_letter2 g42.x (t := 0) (by omega) (show inr (nI (sng S)) (sng S) = false from inrF _ (by omega)) 0) (by decide)) (fun v43 h44 y => ?_)
    obtain ⟨rfl, g44, c44⟩ := y
    refine xo_t rfl (xo_g g44.w.k ?_)
    rw [g44.w.i6]
    refine xo_b (G2_thr (E := E) g44 lc_6 (q8_why1 g44.x (inrF _ (by omega))) (by decide)) (fun v45 h46 y => ?_)
    obtain ⟨rfl, g46, c46⟩ := y
    refine xo_t rfl (xo_g g46.w.k ?_)
    rw [g46.w.i7]
    refine xo_b (G2_thr (E := E) g46 lc_34 (q8_arrowWhy1 g46.x (inrF _ (by omega))) (by decide)) (fun v47 h48 y => ?_)
    obtain ⟨rfl, g48, c48⟩ := y
    refine xo_t rfl (xo_b (G2_thr (E := E) g48 lc_22 (q8_account3 g48.x) (by decide)) (fun v49 h50 y => ?_))
    obtain ⟨rfl, g50, c50⟩ := y
    refine xo_t rfl (xo_b (G2_thr (E := E) g50 lc_24 (q8_setBoundaryM g50.x (inrM _) 0 0) (by decide)) (fun v51 h52 y => ?_))
    obtain ⟨rfl, g52, c52⟩ := y
    refine xo_jn (xo_jn (xo_t rfl (xo_g g52.w.k ?_)))
    rw [g52.w.i6]
    refine xo_b (G2_thr (E := E) g52 lc_25 (q8_setActM g52.x (inrF _ (by omega)) 0 0 0) (by decide)) (fun v56 h57 y => ?_)
    obtain ⟨rfl, g57, c57⟩ := y
    refine xo_t rfl (xo_g g57.w.k ?_)
    rw [g57.w.i6]
    refine xo_b (G2_thr (E := E) g57 lc_26 (q8_restM g57.x (inrF _ (by omega))) (by decide)) (fun v58 h59 y => ?_)
    obtain ⟨rfl, g59, c59⟩ := y
    exact xo_t rfl (xo_eb (like_v g59.1) (xo_f (by decide) (xo_g (Or.inr rfl) (xo_v ⟨rfl, (cu37.trans (c39.trans (c42.trans (c44.trans (c46.trans (c48.trans (c50.trans (c52.trans (c57.trans c59))))))))).more (by omega) (by omega)⟩))))
  · refine xo_f (by rw [li0, nI_leP (by omega) (by omega)]; omega) (xo_b (mods_o (E := E) g37.1 ln) (fun v62 h63 y => ?_))
    obtain ⟨rfl, gs63, r63⟩ := y
    have g63 := G2_gs g37 gs63 r63
    refine xo_jn (xo_f (by decide) (xo_b (act_o (E := E) g63 (by omega) (by omega)) (fun v65 h66 y => ?_)))
    obtain ⟨rfl, T1', k1, g66, hk1, c66⟩ := y
    refine xo_f (by decide) (xo_b (act_o (E := E) g66 (by omega) (by omega)) (fun v67 h68 y => ?_))
    obtain ⟨rfl, T2', k2', g68, hk2, c68⟩ := y
    refine xo_f (by decide) (xo_eb (like_v g68.1) (xo_f (by decide) (again (by omega) _ _ ⟨T2', k2', (nI_pm (by omega)).trans (congrArg nI (by omega)), g68, by omega, ?_⟩)))
    exact (cu37.trans ((CU_gr r63).trans (c66.trans c68))).more (by omega) (by omega)
end LAW
