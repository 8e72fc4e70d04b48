/-! The class's world made: the whole of it. -/
set_option linter.unusedVariables false
def Ws (W ng nm na t : Nat) (h0 h : XH) : Prop := Wf W ng nm na h ∧ Lo W h0 h ∧ xt h = t ∧ ∀ a j, t ≤ a → xi h a j = 0
section WMS
variable {E : XG} {β : Type} {W : Nat} {h0 h : XH} {f : XH → XP β} {Q : β → XH → Prop} {P : Int32}
theorem Wg_s {g : Nat} (p : Ws W g 0 0 (W + 14 + 3 * g) h0 h) (hg : g < 6) (eP : P = nI g) (K : ∀ h', Ws W (g + 1) 0 0 (W + 14 + 3 * (g + 1)) h0 h' → xo (f h') Q) : xo (xg (xk h W = 8) <| xnn (xr h W 3) fun w25 => xg (xk h W ≠ 0) <| xal h 3 0 fun w26 h27 => xb (FX2_init E w26 P h27) fun _ h28 => xg (xk h28 w25 = 17 ∧ xk h28 w26 = 3 ∧ xin P (xn h28 w25)) <| xlt (yr h28 w25 (P : Int32).toNatClampNeg (some w26)) fun h29 => f h29) Q := by
  subst eP
  obtain ⟨p1, l0, t0, z0⟩ := p
  have r3 := p1.1.2 (0, 3, 10, 17, 6) (by decide)
  obtain ⟨n1, n2, n3⟩ := new_0 (h := h) 3 (fun a j ha => z0 a j (by omega))
  refine xo_g p1.1.1 (xo_n r3.1 (xo_g (by rw [p1.1.1]; decide) ?_))
  show xo (xb (FX2_init E (xt h) (nI g) (ya h 3 0)) fun _ h28 => xg (xk h28 (W + 10) = 17 ∧ xk h28 (xt h) = 3 ∧ xin (nI g) (xn h28 (W + 10))) <| xlt (yr h28 (W + 10) (nI g).toNatClampNeg (some (xt h))) fun h29 => f h29) Q
  refine xo_b (FX2_init_o n1 n2 n3 (nI g)) (fun _ h28 q => ?_)
  obtain ⟨⟨t1, l1, z1⟩, gl, i0⟩ := q
  have l2 : Lo (xt h) h h28 := (Lo_ya h 3 0 (Nat.le_refl _)).trans l1
  rw [t0] at t1 l2 z1 gl i0 ⊢
  have p2 := Wf_lo p1 l2 (by omega) (by omega) (Or.inl rfl) (Or.inl rfl)
  have r3' := p2.1.2 (0, 3, 10, 17, 6) (by decide)
  refine xo_g ⟨r3'.2.1, gl.1, by rw [show xn h28 (W + 10) = 6 from r3'.2.2]; exact xin_nI hg (by omega)⟩ (xo_lt (K _ ?_))
  rw [xz_nI (by omega)]
  have p3 := Wf_yr (b := W + 10) (k := g) (v := some (W + 14 + 3 * g)) p2 (Or.inl ⟨rfl, Nat.le_refl _⟩)
  refine ⟨⟨p3.1, fun g' hg' => ?_, p3.2.2⟩, (l0.trans (l2.less (by omega))).trans (Lo_yr _ _ _ _ (by omega)), by show xt h28 = _; omega, fun a j ha => z1 a j (by omega)⟩
  by_cases e : g' = g
  · subst e
    obtain ⟨g1, g2, g3, g4, g5, g6⟩ := gl
    exact ⟨xr_yr1 _ _ _ _, ⟨g1, (xr_yr2 _ _ (Or.inl (by omega))).trans g2, g3, g4, (xr_yr2 _ _ (Or.inl (by omega))).trans g5, g6⟩, i0⟩
  · exact p3.2.1 g' (by omega)
theorem Wm_s {m : Nat} (p : Ws W 6 m 0 (W + 32 + 8 * m) h0 h) (hm : m < 6) (eP : P = nI m) (K : ∀ h', Ws W 6 (m + 1) 0 (W + 32 + 8 * (m + 1)) h0 h' → xo (f h') Q) : xo (xg (xk h W = 8) <| xnn (xr h W 4) fun w55 => xg (xk h W ≠ 0) <| xal h 2 0 fun w56 h57 => xg (xk h57 W = 8) <| xnn (xr h57 W 3) fun w58 => xg (xk h57 w58 = 17 ∧ xin 0 (xn h57 w58)) <| xnn (xr h57 w58 (0 : Int32).toNatClampNeg) fun w59 => xb (FX1_init E w56 P w59 h57) fun _ h60 => xg (xk h60 w55 = 16 ∧ xk h60 w56 = 2 ∧ xin P (xn h60 w55)) <| xlt (yr h60 w55 (P : Int32).toNatClampNeg (some w56)) fun h61 => f h61) Q := by
  subst eP
  obtain ⟨p1, l0, t0, z0⟩ := p
  have r4 := p1.1.2 (0, 4, 11, 16, 6) (by decide)
  obtain ⟨n1, n2, n3⟩ := new_0 (h := h) 2 (fun a j ha => z0 a j (by omega))
  refine xo_g p1.1.1 (xo_n r4.1 (xo_g (by rw [p1.1.1]; decide) ?_))
  have la : Lo (xt h) h (ya h 2 0) := Lo_ya h 2 0 (Nat.le_refl _)
  have pa := Wf_lo p1 la (by omega) (by omega) (by omega) (Or.inl rfl)
  have r3 := pa.1.2 (0, 3, 10, 17, 6) (by decide)
  have g0 := (pa.2.1 0 (by omega)).1
  show xo (xg (xk (ya h 2 0) W = 8) <| xnn (xr (ya h 2 0) W 3) fun w58 => xg (xk (ya h 2 0) w58 = 17 ∧ xin 0 (xn (ya h 2 0) w58)) <| xnn (xr (ya h 2 0) w58 (0 : Int32).toNatClampNeg) fun w59 => xb (FX1_init E (xt h) (nI m) w59 (ya h 2 0)) fun _ h60 => xg (xk h60 (W + 11) = 16 ∧ xk h60 (xt h) = 2 ∧ xin (nI m) (xn h60 (W + 11))) <| xlt (yr h60 (W + 11) (nI m).toNatClampNeg (some (xt h))) fun h61 => f h61) Q
  refine xo_g pa.1.1 (xo_n r3.1 (xo_g ⟨r3.2.1, by rw [r3.2.2]; exact ⟨by decide, by decide⟩⟩ (xo_n (show xr (ya h 2 0) (W + 10) 0 = some (W + 14 + 3 * 0) from g0) (xo_b (FX1_init_o n1 n2 n3 (nI m) _) (fun _ h28 q => ?_)))))
  obtain ⟨⟨t1, l1, z1⟩, gl, i0⟩ := q
  have l2 : Lo (xt h) h h28 := la.trans l1
  rw [t0] at t1 l2 z1 gl i0 ⊢
  have p2 := Wf_lo p1 l2 (by omega) (by omega) (by omega) (Or.inl rfl)
  have r4' := p2.1.2 (0, 4, 11, 16, 6) (by decide)
  refine xo_g ⟨r4'.2.1, gl.1, by rw [show xn h28 (W + 11) = 6 from r4'.2.2]; exact xin_nI hm (by omega)⟩ (xo_lt (K _ ?_))
  rw [xz_nI (by omega)]
  have p3 := Wf_yr (b := W + 11) (k := m) (v := some (W + 32 + 8 * m)) p2 (Or.inr (Or.inl ⟨rfl, Nat.le_refl _⟩))
  refine ⟨⟨p3.1, p3.2.1, fun m' hm' => ?_, p3.2.2.2⟩, (l0.trans (l2.less (by omega))).trans (Lo_yr _ _ _ _ (by omega)), by show xt h28 = _; omega, fun a j ha => z1 a j (by omega)⟩
  by_cases e : m' = m
  · subst e
    obtain ⟨g1, ⟨g2, g3⟩, ⟨g5, g6⟩, g8, b1, ⟨b2, b3⟩, ⟨b4, b5⟩, ⟨b6, b7⟩, b8, b9⟩ := gl
    exact ⟨xr_yr1 _ _ _ _, ⟨g1, ⟨(xr_yr2 _ _ (Or.inl (by omega))).trans g2, g3⟩, ⟨(xr_yr2 _ _ (Or.inl (by omega))).trans g5, g6⟩, (xr_yr2 _ _ (Or.inl (by omega))).trans g8, b1, ⟨(xr_yr2 _ _ (Or.inl (by omega))).trans b2, b3⟩, ⟨(xr_yr2 _ _ (Or.inl (by omega))).trans b4, b5⟩, ⟨(xr_yr2 _ _ (Or.inl (by omega))).trans b6, b7⟩, (xr_yr2 _ _ (Or.inl (by omega))).trans b8, b9⟩, i0⟩
  · exact p3.2.2.1 m' (by omega)
theorem Wa_s {a : Nat} (p : Ws W 6 6 a (W + 80 + 3 * a) h0 h) (ha : a < 8) (eP : P = nI a) (K : ∀ h', Ws W 6 6 (a + 1) (W + 80 + 3 * (a + 1)) h0 h' → xo (f h') Q) : xo (xg (xk h W = 8) <| xnn (xr h W 5) fun w97 => xg (xk h W ≠ 0) <| xal h 1 0 fun w98 h99 => xg (xk h99 W = 8) <| xnn (xr h99 W 4) fun w100 => xg (xk h99 w100 = 16 ∧ xin 0 (xn h99 w100)) <| xnn (xr h99 w100 (0 : Int32).toNatClampNeg) fun w101 => xb (FX0_init E w98 w101 h99) fun _ h102 => xg (xk h102 w97 = 15 ∧ xk h102 w98 = 1 ∧ xin P (xn h102 w97)) <| xlt (yr h102 w97 (P : Int32).toNatClampNeg (some w98)) fun h103 => f h103) Q := by
  subst eP
  obtain ⟨p1, l0, t0, z0⟩ := p
  have r4 := p1.1.2 (0, 5, 12, 15, 8) (by decide)
  obtain ⟨n1, n2, n3⟩ := new_0 (h := h) 1 (fun a j ha => z0 a j (by omega))
  refine xo_g p1.1.1 (xo_n r4.1 (xo_g (by rw [p1.1.1]; decide) ?_))
  have la : Lo (xt h) h (ya h 1 0) := Lo_ya h 1 0 (Nat.le_refl _)
  have pa := Wf_lo p1 la (by omega) (by omega) (by omega) (by omega)
  have r3 := pa.1.2 (0, 4, 11, 16, 6) (by decide)
  have g0 := (pa.2.2.1 0 (by omega)).1
  show xo (xg (xk (ya h 1 0) W = 8) <| xnn (xr (ya h 1 0) W 4) fun w58 => xg (xk (ya h 1 0) w58 = 16 ∧ xin 0 (xn (ya h 1 0) w58)) <| xnn (xr (ya h 1 0) w58 (0 : Int32).toNatClampNeg) fun w59 => xb (FX0_init E (xt h) w59 (ya h 1 0)) fun _ h60 => xg (xk h60 (W + 12) = 15 ∧ xk h60 (xt h) = 1 ∧ xin (nI a) (xn h60 (W + 12))) <| xlt (yr h60 (W + 12) (nI a).toNatClampNeg (some (xt h))) fun h61 => f h61) Q
  refine xo_g pa.1.1 (xo_n r3.1 (xo_g ⟨r3.2.1, by rw [r3.2.2]; exact ⟨by decide, by decide⟩⟩ (xo_n (show xr (ya h 1 0) (W + 11) 0 = some (W + 32 + 8 * 0) from g0) (xo_b (FX0_init_o n1 n2 n3 _) (fun _ h28 q => ?_)))))
  obtain ⟨⟨t1, l1, z1⟩, gl⟩ := q
  have l2 : Lo (xt h) h h28 := la.trans l1
  rw [t0] at t1 l2 z1 gl ⊢
  have p2 := Wf_lo p1 l2 (by omega) (by omega) (by omega) (by omega)
  have r4' := p2.1.2 (0, 5, 12, 15, 8) (by decide)
  refine xo_g ⟨r4'.2.1, gl.1, by rw [show xn h28 (W + 12) = 8 from r4'.2.2]; exact xin_nI ha (by omega)⟩ (xo_lt (K _ ?_))
  rw [xz_nI (by omega)]
  have p3 := Wf_yr (b := W + 12) (k := a) (v := some (W + 80 + 3 * a)) p2 (Or.inr (Or.inr ⟨rfl, Nat.le_refl _⟩))
  refine ⟨⟨p3.1, p3.2.1, p3.2.2.1, fun a' ha' => ?_, p3.2.2.2.2⟩, (l0.trans (l2.less (by omega))).trans (Lo_yr _ _ _ _ (by omega)), by show xt h28 = _; omega, fun b j hb => z1 b j (by omega)⟩
  by_cases e : a' = a
  · subst e
    obtain ⟨g1, ⟨g2, g3⟩, g5, g6⟩ := gl
    exact ⟨xr_yr1 _ _ _ _, g1, ⟨(xr_yr2 _ _ (Or.inl (by omega))).trans g2, g3⟩, (xr_yr2 _ _ (Or.inl (by omega))).trans g5, g6⟩
  · exact p3.2.2.2.1 a' (by omega)
end WMS
section WMT
variable {E : XG} {W : Nat} {h : XH}
theorem FX7_init_o (ht : xt h = W + 1) (hk : xk h W = 8) (hz : ∀ a j, W ≤ a → xi h a j = 0) : xo (FX7_init E W h) (fun _ h' => Ws W 6 6 8 (W + 104) h h') := by
  have b0 : Wb W 0 h h [] := ⟨⟨ht, hk⟩, Lo.refl _ _, fun q hq => (by cases hq), fun a j ha => hz a j ha⟩
  unfold FX7_init
  refine Wn_s b0 (p := 6) (by decide) (by decide) rfl (fun h1 b1 => ?_)
  refine Wn_s b1 (p := 6) (by decide) (by decide) rfl (fun h2 b2 => ?_)
  refine Wn_s b2 (p := 8) (by decide) (by decide) rfl (fun h3 b3 => ?_)
  refine Wr_s b3 (by decide) (fun h4 b4 => ?_)
  refine Wr_s b4 (by decide) (fun h5 b5 => ?_)
  refine Wr_s b5 (by decide) (fun h6 b6 => ?_)
  refine Wr_s b6 (by decide) (fun h7 b7 => ?_)
  have g0 : Ws W 0 0 0 (W + 14 + 3 * 0) h h7 := ⟨⟨⟨b7.1.2, fun q hq => (b7.2.2.1 q hq).2⟩, fun g hg => absurd hg (Nat.not_lt_zero _), fun g hg => absurd hg (Nat.not_lt_zero _), fun g hg => absurd hg (Nat.not_lt_zero _), fun a j q1 q2 => b7.2.2.2 a j q1⟩, b7.2.1, by have := b7.1.1; omega, fun a j ha => b7.2.2.2 a j (by omega)⟩
  refine Wg_s g0 (by decide) rfl (fun h8 g1 => ?_)
  refine Wg_s g1 (by decide) rfl (fun h9 g2 => ?_)
  refine Wg_s g2 (by decide) rfl (fun h10 g3 => ?_)
  refine Wg_s g3 (by decide) rfl (fun h11 g4 => ?_)
  refine Wg_s g4 (by decide) rfl (fun h12 g5 => ?_)
  refine Wg_s g5 (by decide) rfl (fun h13 g6 => ?_)
  have m0 : Ws W 6 0 0 (W + 32 + 8 * 0) h h13 := g6
  refine Wm_s m0 (by decide) rfl (fun h14 m1 => ?_)
  refine Wm_s m1 (by decide) rfl (fun h15 m2 => ?_)
  refine Wm_s m2 (by decide) rfl (fun h16 m3 => ?_)
  refine Wm_s m3 (by decide) rfl (fun h17 m4 => ?_)
  refine Wm_s m4 (by decide) rfl (fun h18 m5 => ?_)
  refine Wm_s m5 (by decide) rfl (fun h19 m6 => ?_)
  have a0 : Ws W 6 6 0 (W + 80 + 3 * 0) h h19 := m6
  refine Wa_s a0 (by decide) rfl (fun h20 a1 => ?_)
  refine Wa_s a1 (by decide) rfl (fun h21 a2 => ?_)
  refine Wa_s a2 (by decide) rfl (fun h22 a3 => ?_)
  refine Wa_s a3 (by decide) rfl (fun h23 a4 => ?_)
  refine Wa_s a4 (by decide) rfl (fun h24 a5 => ?_)
  refine Wa_s a5 (by decide) rfl (fun h25 a6 => ?_)
  refine Wa_s a6 (by decide) rfl (fun h26 a7 => ?_)
  refine Wa_s a7 (by decide) rfl (fun h27 a8 => ?_)
  exact xo_v a8
end WMT
