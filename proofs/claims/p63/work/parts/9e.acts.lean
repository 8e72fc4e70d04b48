/-! The law: acts, moves, turns. -/
set_option linter.unusedVariables false
/-- cells and slots made -/
def CU (c u : Nat) (h h' : XH) : Prop := xt h ≤ xt h' ∧ xc h' ≤ xc h + c ∧ xu h' ≤ xu h + u
theorem CU.refl (h : XH) : CU 0 0 h h := ⟨Nat.le_refl _, Nat.le_refl _, Nat.le_refl _⟩
theorem CU.trans {c1 u1 c2 u2 : Nat} {h h1 h2 : XH} (a : CU c1 u1 h h1) (b : CU c2 u2 h1 h2) : CU (c1 + c2) (u1 + u2) h h2 := by
  unfold CU at *
  omega
theorem CU.more {c1 u1 c2 u2 : Nat} {h h1 : XH} (a : CU c1 u1 h h1) (hc : c1 ≤ c2) (hu : u1 ≤ u2) : CU c2 u2 h h1 := by
  unfold CU at *
  omega
theorem CU.yi {h : XH} (a k : Nat) (x : Int32) : CU 0 0 h (yi h a k x) := ⟨Nat.le_refl _, Nat.le_refl _, Nat.le_refl _⟩
theorem CU_iw {B : Nat → Prop} {h h' : XH} (i : iw B h h') : CU 0 0 h h' := ⟨by rw [i.t]; exact Nat.le_refl _, by rw [(iw_c i).1]; exact Nat.le_refl _, by rw [(iw_c i).2]; exact Nat.le_refl _⟩
/-- the class holds S and Tc, the law's World S and Tl, k draws are made -/
def G2 (h : XH) (X c : Nat) (gb mb ab : Nat → Nat) (S : SD) (Tc Tl : ST) (d s n k : Nat) : Prop := (XQ h X S Tc ∧ lW h c gb mb ab S Tl ∧ lO c gb mb ab S X) ∧ DR h d s n k ∧ d < c ∧ s < d
theorem DR_sm {h h' : XH} {d s n k : Nat} (q : DR h d s n k) (e1 : smC d h h') (e2 : smC s h h') : DR h' d s n k := ⟨⟨e1.1.1.trans q.1.1, (e1.2.2.2 _).trans q.1.2.1, (e1.2.1 _).trans q.1.2.2⟩, ⟨e2.1.1.trans q.2.1.1, e2.1.2.trans q.2.1.2⟩, q.2.2⟩
section ACTS
variable {E : XG} {h h' h0 : XH} {X c : Nat} {gb mb ab : Nat → Nat} {S : SD} {T Tc Tl T' : ST} {d s n k : Nat}
theorem G2.x (g : G2 h X c gb mb ab S Tc Tl d s n k) : XQ h X S Tc := g.1.1
theorem G2.w (g : G2 h X c gb mb ab S Tc Tl d s n k) : lW h c gb mb ab S Tl := g.1.2.1
theorem G2.o (g : G2 h X c gb mb ab S Tc Tl d s n k) : lO c gb mb ab S X := g.1.2.2
theorem G2_d (g : G2 h X c gb mb ab S Tc Tl d s n k) : DR h d s n k := g.2.1
theorem G2.kd (g : G2 h X c gb mb ab S Tc Tl d s n k) : xk h d = 21 := g.2.1.1.1
theorem G2_next (g : G2 h X c gb mb ab S Tc Tl d s n k) (hk : k < 1000000) {hi : Nat} {e : Int32} (he : e = nI hi) (h2 : hi < 1000) : xo (FX10_next E d 0 e h) (fun v h' => (∃ x, v = nI x ∧ x ≤ hi) ∧ G2 h' X c gb mb ab S Tc Tl d s n (k + 1) ∧ CU 0 0 h h') := by
  subst he
  obtain ⟨⟨g1, g2, g3⟩, g4, g5, g6⟩ := g
  have o4 := g3.2.2.2
  refine xo_w (next_o (E := E) (lo := 0) g4 (by omega) (Nat.zero_le _) h2) (fun v h' y => ?_)
  obtain ⟨⟨x, y1, y2, y3⟩, rfl⟩ := y
  have sm : ∀ a, ¬ a = d → smC a h (yi h d 1 (nI (k + 1))) := fun a q => smC_yi q
  refine ⟨⟨x, y1, y3⟩, ⟨⟨?_, lW_sm g2 g3 (fun a a1 a2 => sm a (by omega)), g3⟩, ⟨⟨g4.1.1, g4.1.2.1, xi_yi1 _ _ _ _⟩, g4.2⟩, g5, g6⟩, CU.yi _ _ _⟩
  obtain ⟨w, s', f, Z, x1, z, hl, e1, e2, t⟩ := g1
  exact ⟨w, s', f, Z, XI_sm x1 (fun a a1 a2 => sm a (by omega)), z, hl, e1, e2, t⟩
theorem G2_w (g : G2 h X c gb mb ab S Tc Tl d s n k) {w0 j : Nat} {x : Int32} (h1 : c ≤ w0) (h2 : w0 < X) (w : lW (yi h w0 j x) c gb mb ab S T') : G2 (yi h w0 j x) X c gb mb ab S Tc T' d s n k := by
  obtain ⟨⟨g1, g2, g3⟩, g4, g5, g6⟩ := g
  have sm : ∀ a, ¬ a = w0 → smC a h (yi h w0 j x) := fun a q => smC_yi q
  refine ⟨⟨?_, w, g3⟩, DR_sm g4 (sm d (by omega)) (sm s (by omega)), g5, g6⟩
  obtain ⟨w, s', f, Z, x1, z, hl, e1, e2, t⟩ := g1
  exact ⟨w, s', f, Z, XI_sm x1 (fun a a1 a2 => sm a (by omega)), z, hl, e1, e2, t⟩
theorem G2_c (g : G2 h X c gb mb ab S Tc Tl d s n k) (i : iw (rXa X) h h') (x : XQ h' X S T') : G2 h' X c gb mb ab S T' Tl d s n k := by
  obtain ⟨⟨g1, g2, g3⟩, g4, g5, g6⟩ := g
  have o4 := g3.2.2.2
  exact ⟨⟨x, lW_sm g2 g3 (fun a a1 a2 => smC_iw i (fun y => by unfold rXa at y; omega)), g3⟩, DR_sm g4 (smC_iw i (fun y => by unfold rXa at y; omega)) (smC_iw i (fun y => by unfold rXa at y; omega)), g5, g6⟩
theorem G2_n {cc uu : Nat} (g : G2 h X c gb mb ab S Tc Tl d s n k) (q : Gr nD cc uu h h') : G2 h' X c gb mb ab S Tc Tl d s n k := by
  obtain ⟨⟨g1, g2, g3⟩, g4, g5, g6⟩ := g
  have o4 := g3.2.2.2
  have t := g1.t
  exact ⟨⟨XQ_n g1 q (fun _ _ _ z => z), lW_sm g2 g3 (fun a a1 a2 => q.s (by omega) (fun z => z)), g3⟩, DR_sm g4 (q.s (by omega) (fun z => z)) (q.s (by omega) (fun z => z)), g5, g6⟩
theorem G2_thr {p a b cc e : Int32} {m : XP Int32} {q : Nat} (g : G2 h X c gb mb ab S Tc Tl d s n k) (el : FL_calls E X p a b cc e h = xg (xk h X = 9) (xb m fun v h2 => xv (Int32.toInt64 v) h2)) (em : m = xx q h) (hq : q < 3) : xo (FL_thrown E X p a b cc e h) (fun v h2 => v = nI (q + 1) ∧ G2 h2 X c gb mb ab S Tc Tl d s n k ∧ CU 1 6 h h2) :=
  ⟨_, _, thr_x g.x.k el em hq, rfl, G2_n g (Gr_yx (Gr_refl nD h)), Nat.le_succ _, Nat.le_refl _, Nat.le_refl _⟩
theorem T1_w (w : lW h c gb mb ab S T) (o : lO c gb mb ab S X) : lW (yi h (c + 6) 0 (xi h (c + 6) 0 + 1)) c gb mb ab S (T1 T) := by
  have := lW_cc w o (k := 0) (by omega) (tcc T 0 + 1)
  rw [w.ac (k := 0) (by omega)]
  exact this
theorem foA_s (m : Nat) (e : Nat → Nat → Nat) (g : Nat) (p : ST × Int32) (a : Nat) : foA m e g p (a + 1) = stA m e g a (foA m e g p a) := rfl
theorem foB_s (m : Nat) (e : Nat → Nat → Nat) (nu : Nat) (T : ST) (g : Nat) : foB m e nu T (g + 1) = foA m e g (foB m e nu T g) nu := rfl
theorem moves_o (g : G2 h X c gb mb ab S T (T1 T) d s n k) (hk : k + 3 < 1000000) {m y : Nat} (hm : m < snm S) (hy : y < 6) (hw : y = 1 → smu S m = sml S m) : xo (FL_moves E X (mb m) (nI m) (nI y) d h) (fun v h' => v = 1 ∧ ∃ T' k', G2 h' X c gb mb ab S (Tjd T' (whS S T m) (whS S T' m)) T' d s n k' ∧ k' ≤ k + 3 ∧ CU 1 6 h h') := by
  have M := g.w.md hm
  have bm := g.x.bm hm
  have u8 : nuS S m ≤ 8 := bm.2.2.2.1
  have l8 : nlS2 S m ≤ 8 := bm.2.2.2.2
  have u0 : 0 < nuS S m := M.w.1.1
  have l0 : 0 < nlS2 S m := M.w.1.2.2.1
  have om := g.o.2.1 m hm
  unfold FL_moves
  refine xo_g M.k (xo_n M.r5 (xo_g M.kb (xo_g g.kd (xo_b (G2_next g (by omega) (hi := nuS S m - 1) (by rw [M.nb]; exact nI_sub (b := 1) u0) (by omega)) (fun v2 h3 z => ?_)))))
  obtain ⟨⟨a, rfl, ha⟩, g3, c3⟩ := z
  have M3 := g3.w.md hm
  refine xo_g M3.k (xo_n M3.r4 (xo_g M3.a.1.1.1 (xo_g g3.kd (xo_b (G2_next g3 (by omega) (hi := nlS2 S m - 1) (by rw [M3.a.1.1.2]; exact nI_sub (b := 1) l0) (by omega)) (fun v5 h6 z => ?_)))))
  obtain ⟨⟨f, rfl, hf⟩, g6, c6⟩ := z
  have ha : a < nuS S m := by omega
  have hf : f < nlS2 S m := by omega
  have c6 := c3.trans c6
  have M6 := g6.w.md hm
  by_cases y2 : 2 ≤ y
  · refine xo_t (by rw [li2, nI_leP (by omega) (by omega)]; exact y2) ?_
    by_cases y4 : 4 ≤ y
    · -- one act
      refine xo_t (by rw [li4, nI_leP (by omega) (by omega)]; exact y4) (xo_g M6.k (xo_n M6.r4 ?_))
      rw [lrow M6.a.1 M6.l8 hf]
      refine xo_g (lS_c M6.a.1 hf ha M6.u8) (xo_lt (xo_g M6.k (xo_n M6.r5 (xo_g M6.kb (xo_g g6.kd (xo_b (G2_next g6 (by omega) (hi := nuS S m - 1) (by rw [M6.nb]; exact nI_sub (b := 1) u0) (by omega)) (fun v11 h12 z => ?_)))))))
      obtain ⟨⟨v, rfl, hv⟩, g12, c12⟩ := z
      have hv : v < nuS S m := by omega
      have M12 := g12.w.md hm
      refine xo_g M12.k (xo_n M12.r4 ?_)
      rw [lrow M12.a.1 M12.l8 hf, lwr M12.a.1 hf ha M12.u8, lV_v M6.a hf ha M6.u8]
      have g15 := G2_w g12 (by omega) (by omega) (lW_ac g12.w g12.o hm hf ha hv)
      refine xo_g g15.x.k (xo_b (qc_setAct g15.x hm hf ha hv) (fun v16 h17 z => ?_))
      obtain ⟨rfl, i17, x17⟩ := z
      have g17 := G2_c g15 i17 x17
      refine xo_jn (xo_jn (xo_t rfl (xo_b (G2_thr g17 lc_25 (q8_setActT g17.x hm hf ha (t := -1) (by unfold inr; exact decide_eq_false (fun z => absurd z.1 (by decide)))) (by omega)) (fun v21 h22 z => ?_))))
      obtain ⟨rfl, g22, c22⟩ := z
      exact xo_t rfl (xo_g (Or.inr rfl) (xo_v ⟨rfl, _, _, g22, by omega, (((c6.trans c12).trans (CU.yi _ _ _)).trans ((CU_iw i17).trans c22)).more (by omega) (by omega)⟩))
    · -- one boundary
      refine xo_f (by rw [li4, nI_leP (by omega) (by omega)]; exact y4) (xo_g M6.k (xo_n M6.r5 (xo_g (M6.bg ha) (xo_lt (xo_g g6.kd (xo_b (G2_next g6 (by omega) (hi := 1) rfl (by omega)) (fun v25 h26 z => ?_)))))))
      obtain ⟨⟨v0, rfl, hv0⟩, g26, c26⟩ := z
      rw [M6.bv ha]
      refine xo_jk1 (R := fun v h28 => h28 = h26 ∧ ∃ v', v = nI v' ∧ v' < nlS2 S m) (fun v27 h28 z => ?_) (fun j K => ?_)
      · obtain ⟨rfl, v, rfl, hv⟩ := z
        have M26 := g26.w.md hm
        refine xo_g M26.k (xo_n M26.r5 (xo_g (M26.bg ha) (xo_wat (by omega) (fun h30 e30 => ?_))))
        subst e30
        have g30 := G2_w g26 (by omega) (by omega) (lW_bd g26.w g26.o hm ha hv)
        refine xo_g g30.x.k (xo_b (qc_setBoundary g30.x hm ha hv) (fun v31 h32 z => ?_))
        obtain ⟨rfl, i32, x32⟩ := z
        have g32 := G2_c g30 i32 x32
        have M32 := g32.w.md hm
        refine xo_jn (xo_jn (xo_t rfl (xo_g M32.k (xo_n M32.r4 (xo_g M32.a.1.1.1 ?_)))))
        rw [M32.a.1.1.2]
        refine xo_b (G2_thr g32 lc_24 (q8_setBoundaryG g32.x hm ha (inrF _ (show nlS2 S m < 9 by omega))) (by omega)) (fun v37 h38 z => ?_)
        obtain ⟨rfl, g38, c38⟩ := z
        exact xo_t rfl (xo_g (Or.inr rfl) (xo_v ⟨rfl, _, _, g38, by omega, (((c6.trans c26).trans (CU.yi _ _ _)).trans ((CU_iw i32).trans c38)).more (by omega) (by omega)⟩))
      · by_cases ev : v0 = 0
        · exact xo_t (by rw [ev]; rfl) (K _ _ ⟨rfl, 0, rfl, l0⟩)
        · exact xo_f (by rw [nI_eq0 (by omega)]; exact ev) (K _ _ ⟨rfl, f, rfl, hf⟩)
  · -- the whole action
    refine xo_f (by rw [li2, nI_leP (by omega) (by omega)]; exact y2) ?_
    obtain ⟨e, ee⟩ : ∃ e : Nat → Nat → Nat, e = if y = 1 then cjE S m else fun _ a => a := ⟨_, rfl⟩
    have ev : ∀ g a, g < nlS2 S m → a < nuS S m → e g a < nuS S m := fun g' a' h1 h2 => by
      rw [ee]
      by_cases y1 : y = 1
      · rw [if_pos y1]
        have hh := hw y1
        have G := (g6.w.ws.2.1 _ (g6.w.ws.2.2.1 m hm).1).2
        have h1' : g' < sgn S (smu S m) := by rw [hh]; exact h1
        exact G.cl (G.cl h1' h2) (G.iv h1')
      · rw [if_neg y1]; exact h2
    refine xlp_inv (Po := fun m => xo m _) (fun i s' h' => s' = ((foB m e (nuS S m) (T1 T) i).2, nI i) ∧ G2 h' X c gb mb ab S T (foB m e (nuS S m) (T1 T) i).1 d s n (k + 1 + 1) ∧ CU 0 0 h h') (nlS2 S m) (by omega) (fun i s' h39 ag hi J again => ?_) ⟨rfl, g6, c6⟩
    obtain ⟨rfl, g39, c39⟩ := J
    have M39 := g39.w.md hm
    dsimp only
    refine xo_g M39.k (xo_n M39.r4 (xo_g M39.a.1.1.1 ?_))
    by_cases ei : i = nlS2 S m
    · refine xo_t (by rw [M39.a.1.1.2, ei]; exact Int32.le_refl _) ?_
      rw [ei] at g39 ⊢
      refine xo_jk1 (R := fun v h42 => v = (foB m e (nuS S m) (T1 T) (nlS2 S m)).2 ∧ ∃ T', T' = (foB m e (nuS S m) (T1 T) (nlS2 S m)).1 ∧ G2 h42 X c gb mb ab S (Tjd T' (whS S T m) (whS S T' m)) T' d s n (k + 1 + 1) ∧ CU 0 0 h h42) (fun v41 h42 z => ?_) (fun j K => ?_)
      · obtain ⟨rfl, T', eT, g42, c42⟩ := z
        refine xo_jif ?_
        rw [if_pos rfl]
        exact xo_g (Or.inr rfl) (xo_v ⟨rfl, T', _, g42, by omega, c42.more (by omega) (by omega)⟩)
      · by_cases y1 : y = 1
        · rw [if_pos y1] at ee
          refine xo_t (by rw [y1]; rfl) (xo_g g39.x.k (xo_b (qc_conjugate g39.x hm (hw y1)) (fun v47 h48 z => ?_)))
          obtain ⟨rfl, i48, x48⟩ := z
          rw [← ee] at x48 ⊢
          exact K _ _ ⟨rfl, _, rfl, G2_c g39 i48 x48, (c39.trans (CU_iw i48)).more (by omega) (by omega)⟩
        · rw [if_neg y1] at ee
          refine xo_f (fun z => y1 ((nI_eq (by omega) (by omega)).mp z)) (xo_g g39.x.k (xo_b (qc_rest g39.x hm) (fun v47 h48 z => ?_)))
          obtain ⟨rfl, i48, x48⟩ := z
          rw [← ee] at x48 ⊢
          exact K _ _ ⟨rfl, _, rfl, G2_c g39 i48 x48, (c39.trans (CU_iw i48)).more (by omega) (by omega)⟩
    · have hli : i < nlS2 S m := by omega
      refine xo_f (by rw [M39.a.1.1.2]; exact nI_ge hli M39.l8) ?_
      refine xlp_inv (Po := fun m => xo m _) (fun b s' h' => s' = ((foA m e i (foB m e (nuS S m) (T1 T) i) b).2, nI b) ∧ G2 h' X c gb mb ab S T (foA m e i (foB m e (nuS S m) (T1 T) i) b).1 d s n (k + 1 + 1) ∧ CU 0 0 h h') (nuS S m) (by omega) (fun b s' h49 ag2 hb J again2 => ?_) ⟨rfl, g39, c39⟩
      obtain ⟨rfl, g49, c49⟩ := J
      have M49 := g49.w.md hm
      dsimp only
      refine xo_g M49.k (xo_n M49.r5 (xo_g M49.kb ?_))
      by_cases eb : b = nuS S m
      · refine xo_t (by rw [M49.nb, eb]; exact Int32.le_refl _) ?_
        rw [eb] at g49 ⊢
        rw [nI_s]
        exact again hli _ _ ⟨rfl, g49, c49⟩
      · have hlb : b < nuS S m := by omega
        refine xo_f (by rw [M49.nb]; exact nI_ge hlb M49.u8) ?_
        refine xo_jk1 (R := fun v h52 => v = nI (e i b) ∧ h52 = h49) (fun v51 h52 z => ?_) (fun j K => ?_)
        · obtain ⟨rfl, rfl⟩ := z
          have hev := ev i b hli hlb
          have tl : tac (foA m e i (foB m e (nuS S m) (T1 T) i) b).1 m i b < nuS S m := g49.w.wt.2.1 m i b hm hli hlb
          refine xo_g M49.k (xo_n M49.r4 ?_)
          rw [lrow M49.a.1 M49.l8 hli]
          refine xo_g (lS_c M49.a.1 hli hlb M49.u8) (xo_jif (xo_lt (xo_g M49.k (xo_n M49.r4 ?_))))
          rw [lrow M49.a.1 M49.l8 hli, lwr M49.a.1 hli hlb M49.u8, nI_s]
          refine again2 hlb _ _ ⟨?_, G2_w g49 (by omega) (by omega) (lW_ac g49.w g49.o hm hli hlb hev), (c49.trans (CU.yi _ _ _)).more (by omega) (by omega)⟩
          rw [foA_s]
          unfold stA
          dsimp only
          congr 2
          rw [lV_v M49.a hli hlb M49.u8]
          show (if nI (tac (foA m e i (foB m e (nuS S m) (T1 T) i) b).1 m i b) = nI (e i b) then (0 : Int32) else 1) = _
          by_cases z : tac (foA m e i (foB m e (nuS S m) (T1 T) i) b).1 m i b = e i b
          · rw [if_pos (congrArg nI z), if_pos z]
          · rw [if_neg (fun q => z ((nI_eq (by omega) (by omega)).mp q)), if_neg z]
        · by_cases y1 : y = 1
          · rw [if_pos y1] at ee
            have hh := hw y1
            have hli' : i < nuS S m := by show i < sgn S (smu S m); rw [hh]; exact hli
            refine xo_t (by rw [y1]; rfl) (xo_g M49.k (xo_eb (lconj_v M49 hli' hlb) (K _ _ ⟨?_, rfl⟩)))
            rw [ee]
            rfl
          · rw [if_neg y1] at ee
            exact xo_f (fun z => y1 ((nI_eq (by omega) (by omega)).mp z)) (K _ _ ⟨by rw [ee], rfl⟩)
end ACTS
