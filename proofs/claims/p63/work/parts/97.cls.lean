/-! The law's classes and pairs. -/
set_option linter.unusedVariables false
/-- the cells of a Module and its tables -/
def mReg (M U L : Nat) (d : MD) (a : Nat) : Prop := (U ≤ a ∧ a ≤ U + dnu d) ∨ (L ≤ a ∧ a ≤ L + dnl d) ∨ (M ≤ a ∧ a ≤ M + 2 + dnl d)
def lMB (h : XH) (M U L : Nat) (d : MD) : Prop := lM h M U L d ∧ U + dnu d < xt h ∧ L + dnl d < xt h ∧ M + 2 + dnl d < xt h
theorem lM_sm {h h' : XH} {M U L : Nat} {d : MD} (m : lM h M U L d) (e : ∀ a, mReg M U L d a → smC a h h') : lM h' M U L d := by
  have eM := e M (Or.inr (Or.inr ⟨by omega, by omega⟩))
  have eb := e (M + 1) (Or.inr (Or.inr ⟨by omega, by omega⟩))
  refine ⟨⟨eM.1.1.trans m.k, ⟨(eM.2.2.2 _).trans m.r2, (eM.2.2.2 _).trans m.r3⟩, (eM.2.2.2 _).trans m.r4, (eM.2.2.2 _).trans m.r5⟩, ⟨lV_sm m.u (fun a a1 a2 => e a (Or.inl ⟨a1, a2⟩)), lV_sm m.l (fun a a1 a2 => e a (Or.inr (Or.inl ⟨a1, a2⟩)))⟩, ⟨⟨⟨eb.1.1.trans m.kb, eb.1.2.trans m.nb⟩, fun a ha => (eb.2.1 _).trans (m.2.2.1.1.2 a ha)⟩, lV_sm m.a (fun a a1 a2 => e a (Or.inr (Or.inr ⟨by omega, by omega⟩)))⟩, m.w, m.g⟩
theorem mReg_lt {h : XH} {M U L : Nat} {d : MD} (m : lMB h M U L d) {a : Nat} (q : mReg M U L d a) : a < xt h := by
  obtain ⟨-, m1, m2, m3⟩ := m
  rcases q with q | q | q <;> omega
theorem lMB_gr {h h' : XH} {M U L : Nat} {d : MD} {D : Nat → Prop} {c u : Nat} (m : lMB h M U L d) (g : Gr D c u h h') (q : ∀ a, mReg M U L d a → ¬ D a) : lMB h' M U L d := by
  have t := g.t
  exact ⟨lM_sm m.1 (fun a z => g.s (mReg_lt m z) (q a z)), by have := m.2.1; omega, by have := m.2.2.1; omega, by have := m.2.2.2; omega⟩
theorem lMB_n {h h' : XH} {M U L : Nat} {d : MD} {c u : Nat} (m : lMB h M U L d) (g : Gr nD c u h h') : lMB h' M U L d := lMB_gr m g (fun _ _ z => z)
/-- the row of the classes' numbers -/
def CLR (h : XH) (w : Nat) (d : MD) : Prop := xk h w = 12 ∧ xn h w = dnl d ∧ ∀ x, x < dnl d → xi h w x = nI (nmS d x)
theorem CLR_sm {h h' : XH} {w : Nat} {d : MD} (q : CLR h w d) (e : smC w h h') : CLR h' w d := ⟨e.1.1.trans q.1, e.1.2.trans q.2.1, fun x hx => (e.2.1 _).trans (q.2.2 x hx)⟩
theorem xo_wat {α : Type} {h : XH} {a k : Nat} {x : Int32} {f : XH → XP α} {Q : α → XH → Prop} (hk : k < 2 ^ 31) (hm : ∀ h', h' = yi h a k x → xo (f h') Q) : xo (xlt (yi h a (nI k).toNatClampNeg x) f) Q := hm _ (by rw [xz_nI hk])
section LCL
variable {E : XG} {h : XH} {M U L : Nat} {d : MD}
theorem lcls_o (m : lMB h M U L d) (l : LW d) : xo (FX11_classes E M h) (fun w h' => w = xt h ∧ xt h' = xt h + 1 ∧ Gr nD 1 8 h h' ∧ CLR h' (xt h) d) := by
  have l8 := l.l8
  have m0 := m.1
  unfold FX11_classes
  refine xo_g m0.k (xo_n m0.r3 (xo_g m0.l.1.1.1 ?_))
  rw [m0.l.1.1.2, ofNat_nI]
  refine xo_g ⟨nI_0le' (by omega), by rw [xz_nI (by omega)]; omega⟩ ?_
  rw [xz_nI (by omega)]
  refine xo_al (fun h3 e3 => ?_)
  have g3 := Gr_ya (Gr_refl nD h) 12 (dnl d)
  rw [← e3] at g3
  have g3 : Gr nD 1 8 h h3 := Gr_more g3 (by omega) (by show 0 + dnl d ≤ 8; omega)
  have t3 : xt h3 = xt h + 1 := by rw [e3]; rfl
  have k3 : xk h3 (xt h) = 12 := by rw [e3, xk_ya, if_pos rfl]
  have n3 : xn h3 (xt h) = dnl d := by rw [e3, xn_ya, if_pos rfl]
  generalize eW : xt h = W at *
  refine xlp_inv (Po := fun m => xo m _) (fun g s h' => s = (nI (clF d g).1, nI g) ∧ (xt h' = W + 1 ∧ Gr nD 1 8 h h') ∧ (xk h' W = 12 ∧ xn h' W = dnl d) ∧ ∀ x, x < g → xi h' W x = nI (nmS d x)) (dnl d) (by omega) (fun g s h4 ag hg J again => ?_) ⟨rfl, ⟨t3, g3⟩, ⟨k3, n3⟩, fun x hx => absurd hx (Nat.not_lt_zero _)⟩
  obtain ⟨rfl, ⟨t4, g4⟩, ⟨k4, n4⟩, v4⟩ := J
  dsimp only
  refine xo_g k4 ?_
  by_cases e : g = dnl d
  · subst e
    exact xo_t (by rw [n4]; exact Int32.le_refl _) (xo_v ⟨rfl, t4, g4, k4, n4, v4⟩)
  · have hlt : g < dnl d := by omega
    have zg : (nI g).toNatClampNeg = g := xz_nI (by omega)
    refine xo_f (by rw [n4]; exact nI_ge hlt (by omega)) (xo_g ⟨k4, by rw [n4]; exact xin_nI hlt (by omega)⟩ (xo_wat (by omega) (fun h5 e5 => ?_)))
    have hle := clF_le d g
    have g5 : Gr nD 1 8 h h5 := by rw [e5]; exact Gr_yi g4 (by omega) (fun z => by omega)
    -- behind the search
    have fin : ∀ h7, (xt h7 = W + 1 ∧ Gr nD 1 8 h h7) → (xk h7 W = 12 ∧ xn h7 W = dnl d) → (∀ x, x < g → xi h7 W x = nI (nmS d x)) → ((xi h7 W g = -1 ∧ ∀ f, f < g → cst d f g = false) ∨ (xi h7 W g = nI (nmS d g) ∧ ∃ f, f < g ∧ cst d f g = true)) → xo (xg (xk h7 W = 12 ∧ xin (nI g) (xn h7 W)) <| xjn (fun (v8 : Int32) (h9 : XH) => ag (v8, (nI g + 1)) h9) fun (j93 : Int32 → XH → XP Nat) => if ((xi h7 W (nI g).toNatClampNeg) : Int32) < 0 then (xg (xk h7 W = 12 ∧ xin (nI g) (xn h7 W)) <| xlt (yi h7 W (nI g).toNatClampNeg (nI (clF d g).1)) fun h10 => j93 (nI (clF d g).1 + 1) h10) else (j93 (nI (clF d g).1) h7)) (fun w h' => w = W ∧ xt h' = W + 1 ∧ Gr nD 1 8 h h' ∧ CLR h' W d) := fun h7 q1 q2 q3 q4 => by
      have gd : xk h7 W = 12 ∧ xin (nI g) (xn h7 W) := ⟨q2.1, by rw [q2.2]; exact xin_nI hlt (by omega)⟩
      refine xo_g gd (xo_jn ?_)
      rcases q4 with ⟨a1, a2⟩ | ⟨a1, a2⟩
      · have en : (clF d g).2.1 g = -1 := by
          by_cases z : (clF d g).2.1 g = -1
          · exact z
          · obtain ⟨⟨f, f1, f2⟩, -⟩ := l.old hlt z
            rw [a2 f f1] at f2; cases f2
        obtain ⟨-, n1, n2, -⟩ := l.new hlt en
        refine xo_t (by rw [zg, a1]; decide) (xo_g gd (xo_wat (by omega) (fun h10 e10 => ?_)))
        rw [nI_s, nI_s, ← n2]
        refine again hlt _ _ ⟨rfl, ⟨by rw [e10]; exact q1.1, by rw [e10]; exact Gr_yi q1.2 (by omega) (fun z => by omega)⟩, by rw [e10]; exact q2, fun x hx => ?_⟩
        rw [e10]
        by_cases ex : x = g
        · subst ex
          rw [xi_yi1, n1]
        · rw [xi_yi2 _ _ (Or.inr ex)]
          exact q3 x (by omega)
      · have eo : ¬ (clF d g).2.1 g = -1 := fun z => by
          obtain ⟨n1, -⟩ := l.new hlt z
          obtain ⟨f, f1, f2⟩ := a2
          rw [n1 f f1] at f2; cases f2
        obtain ⟨-, n1, n2⟩ := l.old hlt eo
        refine xo_f (by rw [zg, a1, nI_lt0 (by omega)]; exact id) ?_
        rw [nI_s, ← n2]
        refine again hlt _ _ ⟨rfl, q1, q2, fun x hx => ?_⟩
        by_cases ex : x = g
        · subst ex; exact a1
        · exact q3 x (by omega)
    refine xlp_inv (Po := fun m => xo m _) (fun f s h' => s = nI f ∧ (xt h' = W + 1 ∧ Gr nD 1 8 h h') ∧ (xk h' W = 12 ∧ xn h' W = dnl d) ∧ (∀ x, x < g → xi h' W x = nI (nmS d x)) ∧ ((xi h' W g = -1 ∧ ∀ f', f' < f → cst d f' g = false) ∨ (xi h' W g = nI (nmS d g) ∧ ∃ f, f < g ∧ cst d f g = true))) g (by omega) (fun f s h6 ag2 hf J again2 => ?_) ⟨rfl, ⟨by rw [e5]; exact t4, g5⟩, ⟨by rw [e5]; exact k4, by rw [e5]; exact n4⟩, fun x hx => by rw [e5, xi_yi2 _ _ (Or.inr (by omega))]; exact v4 x hx, Or.inl ⟨by rw [e5, xi_yi1], fun f' hf' => absurd hf' (Nat.not_lt_zero _)⟩⟩
    obtain ⟨rfl, ⟨t6, g6⟩, ⟨k6, n6⟩, v6, z6⟩ := J
    have gd6 : xk h6 W = 12 ∧ xin (nI g) (xn h6 W) := ⟨k6, by rw [n6]; exact xin_nI hlt (by omega)⟩
    refine xo_jn ?_
    by_cases e2 : f = g
    · refine xo_t (by rw [e2]; exact Int32.le_refl _) ?_
      subst e2
      exact fin h6 ⟨t6, g6⟩ ⟨k6, n6⟩ v6 z6
    · have hlf : f < g := by omega
      have hlf2 : f < dnl d := by omega
      refine xo_f (nI_ge hlf (by omega)) (xo_g gd6 ?_)
      rcases z6 with ⟨a1, a2⟩ | ⟨a1, a2⟩
      · refine xo_f (by rw [zg, a1]; decide) ?_
        have m6 := lMB_n m g6
        have m6 := m6.1
        have hi := l.gl.iv hlf2
        have hd := l.gl.cl hi hlt
        refine xo_g m6.k (xo_eb (limg_v m6) (xo_g m6.k (xo_n m6.r3 (xo_g m6.k (xo_n m6.r3 (xo_eb (inv_v m6.l m6.g.2 l8 hlf2) ?_))))))
        rw [lrow m6.l.1 (by omega) hi]
        refine xo_g (lS_c m6.l.1 hi hlt (by omega)) (xo_jn ?_)
        have bit : (((imgS d) >>> ((xi h6 (L + 1 + dvl d f) (nI g).toNatClampNeg) &&& 31)) &&& 1) = if cst d f g = true then 1 else 0 := by
          rw [lV_v m6.l hi hlt (by omega), isin_eq _ (by omega), l.img hlf2 hlt]
        rw [bit]
        cases hc : cst d f g
        · refine xo_f (by decide) ?_
          rw [nI_s]
          refine again2 hlf _ _ ⟨rfl, ⟨t6, g6⟩, ⟨k6, n6⟩, v6, Or.inl ⟨a1, fun f' hf' => ?_⟩⟩
          by_cases ef : f' = f
          · subst ef; exact hc
          · exact a2 f' (by omega)
        · refine xo_t (by decide) (xo_g ⟨k6, by rw [n6]; exact xin_nI hlf2 (by omega)⟩ (xo_g gd6 (xo_wat (by omega) (fun h10 e10 => ?_))))
          rw [nI_s]
          refine again2 hlf _ _ ⟨rfl, ⟨by rw [e10]; exact t6, by rw [e10]; exact Gr_yi g6 (by omega) (fun z => by omega)⟩, by rw [e10]; exact ⟨k6, n6⟩, fun x hx => ?_, Or.inr ⟨?_, f, hlf, hc⟩⟩
          · rw [e10, xi_yi2 _ _ (Or.inr (by omega))]; exact v6 x hx
          · rw [e10, xi_yi1, xz_nI (by omega), v6 f hlf, (l.nm_eq hlf2 hlt).mpr hc]
      · refine xo_t (by rw [zg, a1]; exact nI_0le' (by have := (l.nm hlt).2.1; have := ccN_8 l; omega)) ?_
        exact fin h6 ⟨t6, g6⟩ ⟨k6, n6⟩ v6 (Or.inr ⟨a1, a2⟩)
theorem llst_o (m : lMB h M U L d) (l : LW d) {a : Nat} (ha : a < ccN d) : xo (FX11_leastOf E M (nI a) h) (fun v h' => v = nI (lsS d a) ∧ Gr nD 1 8 h h') := by
  have l8 := l.l8
  have c8 := ccN_8 l
  obtain ⟨q1, q2, q3⟩ := l.least ha
  unfold FX11_leastOf
  refine xo_g m.1.k (xo_b (lcls_o m l) (fun w h2 z => ?_))
  obtain ⟨rfl, -, g2, k2, n2, v2⟩ := z
  refine ⟨nI (lsS d a), h2, ?_, rfl, g2⟩
  refine xlp_all (fun i => nI i) (fun _ => h2) (lsS d a) (by omega) (fun i hi ag => ?_) (fun ag => ?_)
  · have hi2 : i < dnl d := by omega
    have hn := (l.nm hi2).2.1
    rw [xg_t k2, xjn_d, if_neg (by rw [n2]; exact nI_ge hi2 (by omega)), xg_t ⟨k2, by rw [n2]; exact xin_nI hi2 (by omega)⟩, xz_nI (by omega), v2 i hi2, if_neg (fun z => q3 i hi ((nI_eq (by omega) (by omega)).mp z)), nI_s]
  · rw [xg_t k2, xjn_d, if_neg (by rw [n2]; exact nI_ge q2 (by omega)), xg_t ⟨k2, by rw [n2]; exact xin_nI q2 (by omega)⟩, xz_nI (by omega), v2 _ q2, q1, if_pos rfl]
theorem lmany_o (m : lMB h M U L d) (l : LW d) : xo (FX11_many E M h) (fun v h' => v = nI (ccN d) ∧ Gr nD 1 8 h h') := by
  have l8 := l.l8
  unfold FX11_many
  refine xo_g m.1.k (xo_b (lcls_o m l) (fun w h2 z => ?_))
  obtain ⟨rfl, -, g2, k2, n2, v2⟩ := z
  refine xo_g k2 (xo_lt ?_)
  rw [n2, ofNat_nI]
  refine ⟨nI (ccN d), h2, ?_, rfl, g2⟩
  refine xlp_all (fun i => (nI (clF d i).1, nI i)) (fun _ => h2) (dnl d) (by omega) (fun i hi ag => ?_) (fun ag => ?_)
  · have c1 := clF_le d i
    have mx : FJ9_max_7cf53 E (nI (clF d i).1) (nI (nmS d i) + 1) h2 = xv (nI (clF d (i + 1)).1) h2 := by
      rw [nI_s]
      by_cases e : (clF d i).2.1 i = -1
      · obtain ⟨-, n3, n4, -⟩ := l.new hi e
        refine (if_pos (by rw [nI_ltP (by omega) (by omega)]; omega)).trans ?_
        rw [n3, ← n4]
      · obtain ⟨-, n3, n4⟩ := l.old hi e
        refine (if_neg (by rw [nI_ltP (by omega) (by omega)]; omega)).trans ?_
        rw [n4]
    dsimp only
    rw [if_neg (nI_ge hi (by omega)), xg_t ⟨k2, by rw [n2]; exact xin_nI hi (by omega)⟩, xlt_d, xz_nI (by omega), v2 i hi, mx, xb_v, nI_s]
  · dsimp only
    rw [if_pos (Int32.le_refl _)]
    rfl
/-- the row of a pair -/
def PRR (h : XH) (w : Nat) (d : MD) : Prop := (xk h w = 12 ∧ xn h w = 18) ∧ (xi h w 0 = 0 ∧ xi h w 9 = 0) ∧ ∀ o, 1 ≤ o → o ≤ 8 → xi h w o = koS d o ∧ xi h w (9 + o) = coS d o
theorem PRR_sm {h' : XH} {w : Nat} (q : PRR h w d) (e : smC w h h') : PRR h' w d := ⟨⟨e.1.1.trans q.1.1, e.1.2.trans q.1.2⟩, ⟨(e.2.1 _).trans q.2.1.1, (e.2.1 _).trans q.2.1.2⟩, fun o o1 o2 => ⟨(e.2.1 _).trans (q.2.2 o o1 o2).1, (e.2.1 _).trans (q.2.2 o o1 o2).2⟩⟩
def koI (d : MD) (i o : Nat) : Int32 := sumI (fun a => if dbd d a = 0 ∧ odS (dtu d) a = o then 1 else 0) i
def coI (d : MD) (i o : Nat) : Int32 := sumI (fun a => if cdS d a = o then 1 else 0) i
theorem lpair_o (m : lMB h M U L d) (l : LW d) : xo (FX11_pair E M h) (fun w h' => w = xt h ∧ (xt h < xt h' ∧ Gr nD 83 674 h h') ∧ PRR h' (xt h) d) := by
  have l8 := l.l8
  have u8 := m.1.w.1.2.1
  have w9 := m.1.w.2.2.2.2.2.1
  have c8 := ccN_8 l
  unfold FX11_pair
  refine xo_g (by decide) (xo_al (fun h2 e2 => ?_))
  rw [show (18 : Int32).toNatClampNeg = 18 from rfl] at e2
  have g2 := Gr_ya (Gr_refl nD h) 12 18
  rw [← e2] at g2
  have g2 : Gr nD 1 18 h h2 := g2
  have m2 := lMB_n m g2
  have W0 : xk h2 (xt h) = 12 ∧ xn h2 (xt h) = 18 ∧ (∀ j, xi h2 (xt h) j = 0) ∧ xt h2 = xt h + 1 := ⟨by rw [e2, xk_ya, if_pos rfl], by rw [e2, xn_ya, if_pos rfl], fun j => by rw [e2, xi_ya, if_pos rfl], by rw [e2]; rfl⟩
  generalize eW : xt h = W at *
  obtain ⟨k2, n2, z2, t2⟩ := W0
  refine xo_g m2.1.k (xo_b (lcls_o m2 l) (fun v3 h4 z => ?_))
  obtain ⟨rfl, t4, g24, q4⟩ := z
  have g4 : Gr nD 2 26 h h4 := Gr_trans g2 g24 (fun _ z => z) (fun _ z _ => z)
  rw [t2] at t4 q4 ⊢
  have s4 := g24.s (a := W) (by omega) (fun z => z)
  -- the kernel
  refine xlp_inv (Po := fun m => xo m _) (fun i s h' => s = nI i ∧ (xt h' = W + 2 ∧ Gr nD 2 26 h h') ∧ CLR h' (W + 1) d ∧ (xk h' W = 12 ∧ xn h' W = 18) ∧ ∀ o, o < 18 → xi h' W o = if 1 ≤ o ∧ o ≤ 8 then koI d i o else 0) (dnu d) (by omega) (fun i s h5 ag hi J again => ?_) ⟨rfl, ⟨by omega, g4⟩, q4, ⟨s4.1.1.trans k2, s4.1.2.trans n2⟩, fun o ho => by rw [s4.2.1, z2]; split <;> rfl⟩
  obtain ⟨rfl, ⟨t5, g5⟩, q5, ⟨k5, n5⟩, v5⟩ := J
  have m5 := (lMB_n m g5).1
  refine xo_g m5.k (xo_n m5.r2 (xo_g m5.u.1.1.1 ?_))
  rw [m5.u.1.1.2, ofNat_nI]
  by_cases e : i = dnu d
  · subst e
    refine xo_t (Int32.le_refl _) ?_
    -- the classes
    refine xlp_inv (Po := fun m => xo m _) (fun c s h' => s = nI c ∧ (W + 2 ≤ xt h' ∧ Gr nD (2 + 10 * c) (26 + 80 * c) h h') ∧ CLR h' (W + 1) d ∧ (xk h' W = 12 ∧ xn h' W = 18) ∧ ∀ o, o < 18 → xi h' W o = if 1 ≤ o ∧ o ≤ 8 then koS d o else if 10 ≤ o then coI d c (o - 9) else 0) (ccN d) (by omega) (fun c s h7 ag2 hc J again2 => ?_) ⟨rfl, ⟨by omega, g5⟩, q5, ⟨k5, n5⟩, fun o ho => by
      rw [v5 o ho]
      split
      · rfl
      · split <;> rfl⟩
    obtain ⟨rfl, ⟨t7, g7⟩, q7, ⟨k7, n7⟩, v7⟩ := J
    have m7 := lMB_n m g7
    refine xo_g m7.1.k (xo_b (lmany_o m7 l) (fun v8 h9 z => ?_))
    obtain ⟨rfl, g79⟩ := z
    have s79 := fun (a : Nat) (ha : a < xt h7) => g79.s (a := a) ha (fun z => z)
    have g9 : Gr nD (2 + 10 * c + 1) (26 + 80 * c + 8) h h9 := Gr_trans g7 g79 (fun _ z => z) (fun _ z _ => z)
    have t9 := g79.t
    by_cases ec : c = ccN d
    · refine xo_t (by rw [ec]; exact Int32.le_refl _) (xo_v ⟨rfl, ⟨by omega, Gr_more g9 (by omega) (by omega)⟩, ⟨(s79 W (by omega)).1.1.trans k7, (s79 W (by omega)).1.2.trans n7⟩, ⟨?_, ?_⟩, fun o o1 o2 => ⟨?_, ?_⟩⟩)
      · rw [(s79 W (by omega)).2.1, v7 0 (by omega)]; rfl
      · rw [(s79 W (by omega)).2.1, v7 9 (by omega)]; rfl
      · rw [(s79 W (by omega)).2.1, v7 o (by omega), if_pos ⟨o1, o2⟩]
      · rw [(s79 W (by omega)).2.1, v7 (9 + o) (by omega), if_neg (by omega), if_pos (by omega), show 9 + o - 9 = o by omega, ec]; rfl
    · have hlc : c < ccN d := by omega
      refine xo_f (nI_ge hlc (by omega)) ?_
      have m9 := lMB_n m g9
      refine xo_g m9.1.k (xo_b (llst_o m9 l hlc) (fun v10 h11 z => ?_))
      obtain ⟨rfl, g911⟩ := z
      have g11 : Gr nD (2 + 10 * c + 2) (26 + 80 * c + 16) h h11 := Gr_more (Gr_trans (D := nD) g9 g911 (fun _ z => z) (fun _ z _ => z)) (by omega) (by omega)
      have s911 := fun (a : Nat) (ha : a < xt h7) => smC_t (s79 a ha) (g911.s (a := a) (by omega) (fun z => z))
      obtain ⟨f1, f2⟩ := l.cd_first hlc
      have f3 := fi_le 7 (fun i => pw (cpS d) c i == 0)
      have t11 := g911.t
      refine xlp_inv (Po := fun m => xo m _) (fun i s h' => s = (nI (i + 1), nI (pw (dtl d) (lsS d c) i)) ∧ (W + 2 ≤ xt h' ∧ Gr nD (2 + 10 * c + 2 + i) (26 + 80 * c + 16 + 8 * i) h h') ∧ ∀ a, a < W + 2 → smC a h7 h') (fi 7 (fun i => pw (cpS d) c i == 0)) (by omega) (fun i s h12 ag3 hi J again3 => ?_) ⟨rfl, ⟨by omega, g11⟩, fun a ha => s911 a (by omega)⟩
      obtain ⟨rfl, ⟨t12, g12⟩, s12⟩ := J
      obtain ⟨p1, p2⟩ := l.pw_ls hlc i
      have q12 := CLR_sm q7 (s12 (W + 1) (by omega))
      dsimp only
      refine xo_g ⟨q12.1, by rw [q12.2.1]; exact xin_nI p1 (by omega)⟩ ?_
      have ev : xi h12 (W + 1) (nI (pw (dtl d) (lsS d c) i)).toNatClampNeg = nI (pw (cpS d) c i) := by rw [xz_nI (by omega), q12.2.2 _ p1, p2]
      by_cases ei : i = fi 7 (fun i => pw (cpS d) c i == 0)
      · subst ei
        have ep : 9 + nI (fi 7 (fun i => pw (cpS d) c i == 0) + 1) = nI (9 + cdS d c) := nI_a 9 _
        have k12 : xk h12 W = 12 := (s12 W (by omega)).1.1.trans k7
        have n12 : xn h12 W = 18 := (s12 W (by omega)).1.2.trans n7
        have cd := cd_8 l hlc
        have gd : xk h12 W = 12 ∧ xin (nI (9 + cdS d c)) (xn h12 W) := ⟨k12, by rw [n12]; exact xin_nI (by omega) (by omega)⟩
        rw [ep]
        refine xo_t (by rw [ev, f1]; rfl) (xo_g gd (xo_g gd ?_))
        rw [xz_nI (by omega), nI_s]
        refine xo_lt (again2 hlc _ _ ⟨rfl, ⟨t12, Gr_more (Gr_yi g12 (by omega) (fun z => by omega)) (by omega) (by omega)⟩, ?_, ⟨k12, n12⟩, fun o ho => ?_⟩)
        · exact CLR_sm q12 (smC_yi (by omega))
        · by_cases eo : o = 9 + cdS d c
          · subst eo
            rw [xi_yi1, (s12 W (by omega)).2.1, v7 _ ho, if_neg (by omega), if_pos (by omega), if_neg (by omega), if_pos (by omega), show 9 + cdS d c - 9 = cdS d c by omega]
            unfold coI
            rw [sumI_s, if_pos rfl]
          · rw [xi_yi2 _ _ (Or.inr eo), (s12 W (by omega)).2.1, v7 o ho]
            split
            · rfl
            · split
              · unfold coI
                rw [sumI_s, if_neg (by omega), Int32.add_zero]
              · rfl
      · have hlt : i < fi 7 (fun i => pw (cpS d) c i == 0) := by omega
        have np : pw (cpS d) c i < ccN d := pw_lt (fun x y hx hy => l.cp_lt hx hy) hlc i
        refine xo_f (by rw [ev, nI_eq0 (by omega)]; exact f2 i hlt) ?_
        have m12 := lMB_n m g12
        refine xo_g m12.1.k (xo_n m12.1.r3 ?_)
        have e9 := lrow (α := Nat) m12.1.l.1 (by omega) p1
        rw [e9]
        refine xo_g m12.1.k (xo_b (llst_o m12 l hlc) (fun v16 h17 z => ?_))
        obtain ⟨rfl, g17⟩ := z
        have m17 := (lMB_n m12 g17).1
        have hls := l.ls hlc
        refine xo_g (lS_c m17.l.1 p1 hls (by omega)) (xo_lt ?_)
        rw [lV_v m17.l p1 hls (by omega), nI_s]
        have t17 := g17.t
        exact again3 hlt _ _ ⟨rfl, ⟨by omega, Gr_more (Gr_trans (D := nD) g12 g17 (fun _ z => z) (fun _ z _ => z)) (by omega) (by omega)⟩, fun a ha => smC_t (s12 a ha) (g17.s (by omega) (fun z => z))⟩
  · have hlt : i < dnu d := by omega
    have h9 := w9 i hlt
    refine xo_f (nI_ge hlt (by omega)) (xo_g m5.k (xo_n m5.r5 (xo_g (m5.bg hlt) (xo_jn ?_))))
    rw [m5.bv hlt, nI_s]
    by_cases eb : dbd d i = 0
    · have od := od_8 (dtu d) i
      have gd : xk h5 W = 12 ∧ xin (nI (odS (dtu d) i)) (xn h5 W) := ⟨k5, by rw [n5]; exact xin_nI (by omega) (by omega)⟩
      refine xo_t (by rw [eb]; rfl) (xo_g m5.k (xo_n m5.r2 (xo_eb (ord_v m5.u m5.g.1 u8 hlt) (xo_g gd (xo_g gd ?_)))))
      rw [xz_nI (by omega)]
      refine xo_lt (again hlt _ _ ⟨rfl, ⟨t5, Gr_yi g5 (by omega) (fun z => by omega)⟩, CLR_sm q5 (smC_yi (by omega)), ⟨k5, n5⟩, fun o ho => ?_⟩)
      by_cases eo : o = odS (dtu d) i
      · subst eo
        rw [xi_yi1, v5 _ ho, if_pos od, if_pos od]
        unfold koI
        rw [sumI_s, if_pos ⟨eb, rfl⟩]
      · rw [xi_yi2 _ _ (Or.inr eo), v5 o ho]
        split
        · unfold koI
          rw [sumI_s, if_neg (fun z => eo z.2.symm), Int32.add_zero]
        · rfl
    · refine xo_f (by rw [nI_eq0 (by omega)]; exact eb) (again hlt _ _ ⟨rfl, ⟨t5, g5⟩, q5, ⟨k5, n5⟩, fun o ho => ?_⟩)
      rw [v5 o ho]
      split
      · unfold koI
        rw [sumI_s, if_neg (fun z => eb z.1), Int32.add_zero]
      · rfl
theorem lalk_o {M2 U2 L2 : Nat} {e : MD} (m : lMB h M U L d) (l : LW d) (m2 : lMB h M2 U2 L2 e) (l2 : LW e) : xo (FL_areLike E M M2 h) (fun v h' => v = bI (alS d e) ∧ Gr nD 166 1348 h h') := by
  unfold FL_areLike
  refine xo_g m.1.k (xo_b (lpair_o m l) (fun v1 h2 z => ?_))
  obtain ⟨rfl, ⟨lt2, g2⟩, p2⟩ := z
  have m22 := lMB_n m2 g2
  refine xo_g m22.1.k (xo_b (lpair_o m22 l2) (fun v3 h4 z => ?_))
  obtain ⟨rfl, ⟨-, g24⟩, p4⟩ := z
  have g4 : Gr nD 166 1348 h h4 := Gr_trans g2 g24 (fun _ z => z) (fun _ z _ => z)
  have p24 := PRR_sm p2 (g24.s lt2 (fun z => z))
  refine ⟨bI (alS d e), h4, ?_, rfl, g4⟩
  refine xlp_all (fun i => (bI (!anyB i (fun j => xi h4 (xt h) j ≠ xi h4 (xt h2) j)), nI i)) (fun _ => h4) 18 (by omega) (fun i hi ag => ?_) (fun ag => ?_)
  · dsimp only
    rw [if_neg (show ¬ (18 : Int32) ≤ nI i by rw [show (18 : Int32) = nI 18 from rfl, nI_leP (by omega) (by omega)]; omega), xg_t ⟨p24.1.1, by rw [p24.1.2]; exact xin_nI hi (by omega)⟩, xg_t ⟨p4.1.1, by rw [p4.1.2]; exact xin_nI hi (by omega)⟩, xjn_d, xz_nI (by omega), anyB_s, nI_s]
    by_cases q : xi h4 (xt h) i = xi h4 (xt h2) i
    · rw [if_pos q, decide_eq_false (fun z => z q), Bool.or_false]
      cases anyB i (fun j => xi h4 (xt h) j ≠ xi h4 (xt h2) j) <;> rfl
    · rw [if_neg q, decide_eq_true q, Bool.or_true]
      cases anyB i (fun j => xi h4 (xt h) j ≠ xi h4 (xt h2) j) <;> rfl
  · dsimp only
    rw [if_pos (by decide), xg_t (by cases anyB 18 (fun j => xi h4 (xt h) j ≠ xi h4 (xt h2) j) <;> decide)]
    congr 2
    unfold alS
    congr 1
    rw [Bool.eq_iff_iff, anyB_iff, anyB_iff]
    constructor
    · rintro ⟨i, hi, q⟩
      have q := of_decide_eq_true q
      by_cases i0 : i = 0
      · subst i0; exact absurd (p24.2.1.1.trans p4.2.1.1.symm) q
      · by_cases i9 : i = 9
        · subst i9; exact absurd (p24.2.1.2.trans p4.2.1.2.symm) q
        · by_cases i8 : i ≤ 8
          · refine ⟨i - 1, by omega, decide_eq_true (Or.inl ?_)⟩
            rw [show i - 1 + 1 = i by omega, ← (p24.2.2 i (by omega) i8).1, ← (p4.2.2 i (by omega) i8).1]
            exact q
          · refine ⟨i - 10, by omega, decide_eq_true (Or.inr ?_)⟩
            rw [show i - 10 + 1 = i - 9 by omega, ← (p24.2.2 (i - 9) (by omega) (by omega)).2, ← (p4.2.2 (i - 9) (by omega) (by omega)).2, show 9 + (i - 9) = i by omega]
            exact q
    · rintro ⟨i, hi, q⟩
      rcases of_decide_eq_true q with q | q
      · refine ⟨i + 1, by omega, decide_eq_true ?_⟩
        rw [(p24.2.2 (i + 1) (by omega) (by omega)).1, (p4.2.2 (i + 1) (by omega) (by omega)).1]
        exact q
      · refine ⟨9 + (i + 1), by omega, decide_eq_true ?_⟩
        rw [(p24.2.2 (i + 1) (by omega) (by omega)).2, (p4.2.2 (i + 1) (by omega) (by omega)).2]
        exact q
end LCL
