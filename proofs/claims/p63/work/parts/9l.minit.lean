/-! The World made: a Module's constructor, a Module's rows as they are written. -/
set_option linter.unusedVariables false
section MIN
variable {E : XG} {h h' h0 : XH} {M U L : Nat} {D : Nat → Prop} {c u : Nat} {d : MD}
/-- a Module with other boundaries and acts -/
def dSt (d : MD) (f : Nat → Nat) (e : Nat → Nat → Nat) : MD := (d.1, d.2.1, d.2.2.1, d.2.2.2.1, d.2.2.2.2.1, d.2.2.2.2.2.1, f, e)
theorem FI_yr {G n k i j a x : Nat} {t : Nat → Nat → Nat} {y : Option Nat} (q : FI h0 D c u G n k t i j h) (ha : a < G) (hd : a < xt h0 → D a) : FI h0 D c u G n k t i j (yr h a x y) := by
  obtain ⟨⟨q1, q2, q3⟩, q4, q5⟩ := q
  refine ⟨⟨Gr_yr q1 hd, q2, q3⟩, ⟨q4.1, fun b hb => ⟨?_, (q4.2 b hb).2⟩⟩, q5⟩
  rw [xr_yr2 _ _ (Or.inl (by omega))]
  exact (q4.2 b hb).1
theorem minit_o {p1 p2 : Int32} (w : Wd d) (g : GD d) (hM : xt h = M + 1) (kM : xk h M = 22) (qu : lT h U (dnu d) (dtu d)) (ql : lT h L (dnl d) (dtl d)) (hU : U + dnu d < M) (hL : L + dnl d < M) : xo (FX11_init E M p1 p2 U L h) (fun _ h' => lM h' M U L (dSt d (fun _ => 0) (fun _ a => a)) ∧ (xi h' M 0 = p1 ∧ xi h' M 1 = p2) ∧ xt h' = M + 3 + dnl d ∧ Gr (fun a => a = M) (2 + dnl d) (dnu d + dnl d + dnl d * dnu d) h h') := by
  obtain ⟨⟨u0, u8, l0, l8⟩, w2, w3, w4, w5, w6, w7⟩ := w
  unfold FX11_init
  refine xo_g kM (xo_wi (fun h1 e1 => xo_g (by rw [e1]; exact kM) (xo_wi (fun h2 e2 => xo_g (by rw [e2, e1]; exact kM) (xo_wr (fun h3 e3 => xo_g (by rw [e3, e2, e1]; exact kM) (xo_wr (fun h4 e4 => ?_))))))))
  have g4 : Gr (fun a => a = M) 0 0 h h4 := by
    have a1 := Gr_yi (a := M) (k := 0) (x := p1) (Gr_refl (fun a => a = M) h) (by omega) (fun _ => rfl)
    rw [← e1] at a1
    have a2 := Gr_yi (a := M) (k := 1) (x := p2) a1 (by rw [e1, xt_yi]; omega) (fun _ => rfl)
    rw [← e2] at a2
    have a3 := Gr_yr (a := M) (k := 2) (x := some U) a2 (fun _ => rfl)
    rw [← e3] at a3
    have a4 := Gr_yr (a := M) (k := 3) (x := some L) a3 (fun _ => rfl)
    rw [← e4] at a4
    exact a4
  have t4 : xt h4 = M + 1 := by rw [e4, e3, e2, e1]; exact hM
  have k4 : ∀ a, xk h4 a = xk h a := fun a => by rw [e4, e3, e2, e1]; rfl
  have n4 : ∀ a, xn h4 a = xn h a := fun a => by rw [e4, e3, e2, e1]; rfl
  have i4 : xi h4 M 0 = p1 ∧ xi h4 M 1 = p2 := by
    rw [e4, e3]
    refine ⟨?_, ?_⟩
    · rw [xi_yr, xi_yr, e2, xi_yi2 _ _ (Or.inr (by decide)), e1, xi_yi1]
    · rw [xi_yr, xi_yr, e2, xi_yi1]
  have r4 : xr h4 M 2 = some U ∧ xr h4 M 3 = some L := by
    refine ⟨?_, ?_⟩
    · rw [e4, xr_yr2 _ _ (Or.inr (by decide)), e3, xr_yr1]
    · rw [e4, xr_yr1]
  clear e1 e2 e3 e4
  refine xo_g (by rw [k4]; exact qu.1.1.1) ?_
  rw [n4, qu.1.1.2, ofNat_nI]
  refine xo_g ⟨nI_0le' (by omega), by rw [xz_nI (by omega)]; omega⟩ ?_
  rw [xz_nI (by omega)]
  refine xo_al (fun h6 e6 => ?_)
  rw [t4]
  have g6 := Gr_ya g4 12 (dnu d)
  rw [← e6] at g6
  have k6 : xk h6 M = 22 := by rw [e6, xk_ya, if_neg (by omega), k4]; exact kM
  have b6 : xk h6 (M + 1) = 12 ∧ xn h6 (M + 1) = dnu d ∧ ∀ j, xi h6 (M + 1) j = 0 := ⟨by rw [e6, xk_ya, if_pos t4.symm], by rw [e6, xn_ya, if_pos t4.symm], fun j => by rw [e6, xi_ya, if_pos t4.symm]⟩
  refine xo_g k6 (xo_wr (fun h7 e7 => ?_))
  have g7 := Gr_yr (a := M) (k := 5) (x := some (M + 1)) g6 (fun _ => rfl)
  rw [← e7] at g7
  have t7 : xt h7 = M + 2 := by rw [e7, xt_yr, e6, xt_ya]; omega
  have k7 : xk h7 M = 22 := by rw [e7]; exact k6
  have s7 : ∀ a, a < M → smC a h h7 := fun a ha => g7.s (by omega) (by omega)
  have qu7 : lT h7 U (dnu d) (dtu d) := lV_sm qu (fun a a1 a2 => s7 a (by omega))
  have ql7 : lT h7 L (dnl d) (dtl d) := lV_sm ql (fun a a1 a2 => s7 a (by omega))
  refine xo_g ql7.1.1.1 (xo_g qu7.1.1.1 ?_)
  rw [qu7.1.1.2, ql7.1.1.2, ofNat_nI, ofNat_nI]
  refine xo_g ⟨⟨nI_0le' (by omega), nI_0le' (by omega)⟩, by rw [xz_nI (by omega)]; omega, by rw [xz_nI (by omega)]; omega⟩ ?_
  rw [xz_nI (show dnl d < 2 ^ 31 by omega), xz_nI (show dnu d < 2 ^ 31 by omega)]
  refine xo_mg ?_
  have F0 := FI_0 g7 (dnl d) (dnu d) (fun _ a => a)
  have s9 : ∀ a, a < M + 2 → smC a h7 (ygr h7 (dnl d) (dnu d) (dnl d)) := fun a ha => ygr_lo h7 _ _ _ a (by omega)
  rw [t7] at F0 ⊢
  generalize ygr h7 (dnl d) (dnu d) (dnl d) = h9 at *
  refine xo_g ((s9 M (by omega)).1.1.trans k7) (xo_wr (fun h10 e10 => ?_))
  have F10 := FI_yr (a := M) (x := 4) (y := some (M + 2)) F0 (by omega) (fun _ => rfl)
  rw [← e10] at F10
  -- what the module's cell and its boundaries are
  have s10 : ∀ a, a < M → smC a h h10 := fun a ha => smC_t (s7 a ha) (smC_t (s9 a (by omega)) (by rw [e10]; exact smC_yr (by omega)))
  have c10 : (xk h10 M = 22 ∧ (xr h10 M 2 = some U ∧ xr h10 M 3 = some L) ∧ xr h10 M 4 = some (M + 2) ∧ xr h10 M 5 = some (M + 1)) ∧ (xi h10 M 0 = p1 ∧ xi h10 M 1 = p2) ∧ (xk h10 (M + 1) = 12 ∧ xn h10 (M + 1) = dnu d ∧ ∀ j, xi h10 (M + 1) j = 0) := by
    have sM := s9 M (by omega)
    have sB := s9 (M + 1) (by omega)
    refine ⟨⟨by rw [e10, xk_yr]; exact sM.1.1.trans k7, ⟨?_, ?_⟩, by rw [e10, xr_yr1], ?_⟩, ⟨?_, ?_⟩, ?_, ?_, fun j => ?_⟩
    · rw [e10, xr_yr2 _ _ (Or.inr (by decide)), sM.2.2.2, e7, xr_yr2 _ _ (Or.inr (by decide)), e6, xr_ya, if_neg (by omega)]; exact r4.1
    · rw [e10, xr_yr2 _ _ (Or.inr (by decide)), sM.2.2.2, e7, xr_yr2 _ _ (Or.inr (by decide)), e6, xr_ya, if_neg (by omega)]; exact r4.2
    · rw [e10, xr_yr2 _ _ (Or.inr (by decide)), sM.2.2.2, e7, xr_yr1]
    · rw [e10, xi_yr, sM.2.1, e7, xi_yr, e6, xi_ya, if_neg (by omega)]; exact i4.1
    · rw [e10, xi_yr, sM.2.1, e7, xi_yr, e6, xi_ya, if_neg (by omega)]; exact i4.2
    · rw [e10, xk_yr, sB.1.1, e7, xk_yr]; exact b6.1
    · rw [e10, xn_yr, sB.1.2, e7, xn_yr]; exact b6.2.1
    · rw [e10, xi_yr, sB.2.1, e7, xi_yr]; exact b6.2.2 j
  clear e10 e7 e6 s9 s7 qu7 ql7 F0
  refine xlp_inv (Po := fun m => xo m _) (fun i s h' => s = nI i ∧ (∀ a, a < M + 2 → smC a h10 h') ∧ FI h (fun a => a = M) (0 + 1 + 1 + dnl d) (0 + yw 12 (dnu d) + dnl d + dnl d * dnu d) (M + 2) (dnl d) (dnu d) (fun _ a => a) i 0 h') (dnl d) (by omega) (fun i s h11 ag hi J again => ?_) ⟨rfl, fun a _ => smC_r a h10, F10⟩
  obtain ⟨rfl, Js, J⟩ := J
  have ql11 : lT h11 L (dnl d) (dtl d) := lV_sm ql (fun a a1 a2 => smC_t (s10 a (by omega)) (Js a (by omega)))
  refine xo_g ql11.1.1.1 ?_
  rw [ql11.1.1.2, ofNat_nI]
  by_cases e : i = dnl d
  · subst e
    have sM := Js M (by omega)
    have sB := Js (M + 1) (by omega)
    have a3 := lV_sm qu (fun a a1 a2 => smC_t (s10 a (by omega)) (Js a (by omega)))
    obtain ⟨⟨c1, ⟨c2, c3⟩, c4, c5⟩, ⟨c6, c7⟩, c8, c9, c10'⟩ := c10
    refine xo_t (Int32.le_refl _) (xo_v ⟨⟨⟨sM.1.1.trans c1, ⟨(sM.2.2.2 _).trans c2, (sM.2.2.2 _).trans c3⟩, (sM.2.2.2 _).trans c4, (sM.2.2.2 _).trans c5⟩, ⟨a3, ql11⟩, ⟨⟨⟨sB.1.1.trans c8, sB.1.2.trans c9⟩, fun a ha => (sB.2.1 _).trans (c10' a)⟩, FI_end J⟩, ⟨⟨u0, u8, l0, l8⟩, w2, w3, w4, w5, fun a _ => l0, fun g a _ ha => ha⟩, g⟩, ⟨(sM.2.1 _).trans c6, (sM.2.1 _).trans c7⟩, by have := J.1.2.2; omega, Gr_more J.1.1 (by omega) (by show 0 + dnu d + dnl d + dnl d * dnu d ≤ _; omega)⟩)
  · have hlt : i < dnl d := by omega
    refine xo_f (nI_ge hlt (by omega)) ?_
    refine xlp_inv (Po := fun m => xo m _) (fun j s h' => s = nI j ∧ (∀ a, a < M + 2 → smC a h10 h') ∧ FI h (fun a => a = M) (0 + 1 + 1 + dnl d) (0 + yw 12 (dnu d) + dnl d + dnl d * dnu d) (M + 2) (dnl d) (dnu d) (fun _ a => a) i j h') (dnu d) (by omega) (fun j s h12 ag2 hj J2 again2 => ?_) ⟨rfl, Js, J⟩
    obtain ⟨rfl, Js2, J2⟩ := J2
    have qu12 : lT h12 U (dnu d) (dtu d) := lV_sm qu (fun a a1 a2 => smC_t (s10 a (by omega)) (Js2 a (by omega)))
    refine xo_g qu12.1.1.1 ?_
    by_cases e2 : j = dnu d
    · subst e2
      refine xo_t (by rw [qu12.1.1.2]; exact Int32.le_refl _) ?_
      rw [nI_s]
      exact again hlt _ _ ⟨rfl, Js2, FI_row J2⟩
    · have hlj : j < dnu d := by omega
      refine xo_f (by rw [qu12.1.1.2]; exact nI_ge hlj (by omega)) (xo_g ((Js2 M (by omega)).1.1.trans c10.1.1) (xo_n (((Js2 M (by omega)).2.2.2 _).trans c10.1.2.2.1) ?_))
      rw [lrow J2.2.1 (by omega) hlt, lwr J2.2.1 hlt hlj (by omega), nI_s]
      exact again2 hlj _ _ ⟨rfl, fun a ha => smC_t (Js2 a ha) (smC_yi (by omega)), FI_put (t := fun _ a => a) J2 hlt hlj⟩
/-- one boundary written -/
theorem lM_bd (m : lM h M U L d) (hU : U + dnu d < M) (hL : L + dnl d < M) {a v : Nat} (ha : a < dnu d) (hv : v < dnl d) : lM (yi h (M + 1) a (nI v)) M U L (dSt d (fun x => if x = a then v else dbd d x) (dac d)) := by
  obtain ⟨⟨u0, u8, l0, l8⟩, w2, w3, w4, w5, w6, w7⟩ := m.w
  refine ⟨⟨m.k, ⟨m.r2, m.r3⟩, m.r4, m.r5⟩, ⟨lV_sm m.u (fun x a1 a2 => smC_yi (by have a3 : x ≤ U + dnu d := a2; omega)), lV_sm m.l (fun x a1 a2 => smC_yi (by have a3 : x ≤ L + dnl d := a2; omega))⟩, ⟨⟨⟨m.kb, m.nb⟩, fun x hx => ?_⟩, lV_sm m.a (fun x a1 a2 => smC_yi (by omega))⟩, ⟨⟨u0, u8, l0, l8⟩, w2, w3, w4, w5, fun x hx => ?_, w7⟩, m.g⟩
  · show xi _ (M + 1) x = nI (if x = a then v else dbd d x)
    by_cases e : x = a
    · rw [e, xi_yi1, if_pos rfl]
    · rw [xi_yi2 _ _ (Or.inr e), if_neg e]
      exact m.2.2.1.1.2 x hx
  · show (if x = a then v else dbd d x) < dnl d
    split
    · exact hv
    · exact w6 x hx
/-- one act written -/
theorem lM_ac (m : lM h M U L d) (hU : U + dnu d < M) (hL : L + dnl d < M) {g a v : Nat} (hg : g < dnl d) (ha : a < dnu d) (hv : v < dnu d) : lM (yi h (M + 2 + 1 + g) a (nI v)) M U L (dSt d (dbd d) (fun y x => if y = g ∧ x = a then v else dac d y x)) := by
  obtain ⟨⟨u0, u8, l0, l8⟩, w2, w3, w4, w5, w6, w7⟩ := m.w
  refine ⟨⟨m.k, ⟨m.r2, m.r3⟩, m.r4, m.r5⟩, ⟨lV_sm m.u (fun x a1 a2 => smC_yi (by have a3 : x ≤ U + dnu d := a2; omega)), lV_sm m.l (fun x a1 a2 => smC_yi (by have a3 : x ≤ L + dnl d := a2; omega))⟩, ⟨⟨⟨m.kb, m.nb⟩, fun x hx => (xi_yi2 _ _ (Or.inl (by omega))).trans (m.2.2.1.1.2 x hx)⟩, ⟨m.a.1.1, fun y hy => m.a.1.2 y hy⟩, fun y x hy hx => ?_⟩, ⟨⟨u0, u8, l0, l8⟩, w2, w3, w4, w5, w6, fun y x hy hx => ?_⟩, m.g⟩
  · show xi _ (M + 2 + 1 + y) x = nI (if y = g ∧ x = a then v else dac d y x)
    by_cases e : y = g ∧ x = a
    · rw [e.1, e.2, xi_yi1, if_pos ⟨rfl, rfl⟩]
    · rw [xi_yi2 _ _ (by omega), if_neg e]
      exact m.a.2 y x hy hx
  · show (if y = g ∧ x = a then v else dac d y x) < dnu d
    split
    · exact hv
    · exact w7 y x hy hx
end MIN
