/-! The World made: FX12_init. -/
set_option linter.unusedVariables false
section WI2
variable {E : XG} {h h' h0 : XH} {c d s n : Nat}
theorem nI_pm {a : Nat} (h : 0 < a) : nI a + (-1) = nI (a - 1) := by
  obtain ⟨b, rfl⟩ : ∃ b, a = b + 1 := ⟨a - 1, by omega⟩
  rw [← nI_s, add_m1]
  rfl
theorem winit_o (hc : xt h = c + 1) (kc : xk h c = 23) (z : ∀ j, xi h c j = 0) (dr : DR h d s n 0) (hd : d < c) (hs : s < d) : xo (FX12_init E c d h) (fun _ h' => ∃ gb bm ab S T l nl k Dd, WC h' c gb bm ab S T d s n k l nl Dd ∧ ((1 ≤ sng S ∧ sng S ≤ 3) ∧ (1 ≤ snm S ∧ snm S ≤ 4) ∧ sna S ≤ 3) ∧ l.length ≤ 850 ∧ nl ≤ 50 ∧ k ≤ 200 ∧ CU 1100 1800000 h h') := by
  have l14 : (wJS 14).length = 7 := by decide +kernel
  unfold FX12_init
  refine xo_al (fun h2 e2 => ?_)
  rw [hc]
  have g2 := Gr_ya (Gr_refl nD h) 24 0
  rw [← e2] at g2
  have g2 : Gr nD 1 20 h h2 := Gr_more g2 (by omega) (by decide)
  have k2 : xk h2 (c + 1) = 24 := by rw [e2, xk_ya, if_pos hc.symm]
  have i2 : ∀ j, xi h2 (c + 1) j = 0 := fun j => by rw [e2, xi_ya, if_pos hc.symm]
  have t2 : xt h2 = c + 2 := by rw [e2, xt_ya]; omega
  refine xo_b (xo_and (init_str (E := E) g2 k2 i2 (by omega) (fun y => by omega) (i := 14) (by decide) (by omega)) (init_str_t (E := E) k2 i2 (by omega) (i := 14) (by decide) (by omega))) (fun _ h3 y => ?_)
  obtain ⟨⟨A, sb3, ⟨_, dA⟩, g3⟩, t3⟩ := y
  have s3 : ∀ a, a < c + 1 → smC a h h3 := fun a ha => g3.s (by omega) (fun y => y)
  have kc3 : xk h3 c = 23 := (s3 c (by omega)).1.1.trans kc
  have hA : c + 1 ≤ A := by
    rcases Nat.lt_or_ge A (xt h) with y | y
    · exact (dA y).elim
    · omega
  refine xo_g kc3 (xo_wr (fun h4 e4 => ?_))
  have s4 : ∀ a, ¬ a = c → smC a h3 h4 := fun a na => by rw [e4]; exact smC_yr na
  have w0 : WO h c 0 h4 := ⟨⟨by rw [e4]; exact kc3, fun i => by rw [e4, xi_yr]; exact ((s3 c (by omega)).2.1 i).trans (z i)⟩, by rw [e4, xt_yr]; omega, by rw [e4, xr_yr1], fun i hi => absurd hi (Nat.not_lt_zero _), A, SB_sm sb3 (s4 _ (by omega)) (s4 _ (by omega)) (by rw [e4]; exact Nat.le_refl _), by omega⟩
  have g3 : Gr (fun a => a = c) 3 1920 h h3 := Gr_wide g3 (fun _ y => y.elim) (by omega) (by omega)
  have g4 := Gr_yr (a := c) (k := 0) (x := some (c + 1)) g3 (fun _ => rfl)
  rw [← e4] at g4
  clear e4 s4 e2
  refine xo_al (fun h6 e6 => ?_)
  obtain ⟨k6, W1⟩ := WO_s w0 (by omega) rfl rfl e6
  refine xo_g k6 (xo_wr (fun h7 e7 => ?_))
  have w1 := W1 h7 e7
  have g6 := Gr_ya g4 19 6
  rw [← e6] at g6
  have g7 := Gr_yr (a := c) (k := 1) (x := some (xt h4)) g6 (fun _ => rfl)
  rw [← e7] at g7
  clear e6 e7 W1
  refine xo_al (fun h9 e9 => ?_)
  obtain ⟨k9, W2⟩ := WO_s w1 (by omega) rfl rfl e9
  refine xo_g k9 (xo_wr (fun h10 e10 => ?_))
  have w2 := W2 h10 e10
  have g9 := Gr_ya g7 20 6
  rw [← e9] at g9
  have g10 := Gr_yr (a := c) (k := 2) (x := some (xt h7)) g9 (fun _ => rfl)
  rw [← e10] at g10
  clear e9 e10 W2
  refine xo_al (fun h12 e12 => ?_)
  obtain ⟨k12, W3⟩ := WO_s w2 (by omega) rfl rfl e12
  refine xo_g k12 (xo_wr (fun h13 e13 => ?_))
  have w3 := W3 h13 e13
  have g12 := Gr_ya g10 26 8
  rw [← e12] at g12
  have g13 := Gr_yr (a := c) (k := 3) (x := some (xt h10)) g12 (fun _ => rfl)
  rw [← e13] at g13
  clear e12 e13 W3
  refine xo_g (by decide) ?_
  rw [show (3 : Int32).toNatClampNeg = 3 from rfl]
  refine xo_al (fun h15 e15 => ?_)
  obtain ⟨k15, W4⟩ := WO_s w3 (by omega) rfl rfl e15
  refine xo_g k15 (xo_wr (fun h16 e16 => ?_))
  have w4 := W4 h16 e16
  have g15 := Gr_ya g13 12 3
  rw [← e15] at g15
  have g16 := Gr_yr (a := c) (k := 4) (x := some (xt h13)) g15 (fun _ => rfl)
  rw [← e16] at g16
  clear e15 e16 W4
  have cu16 : CU 7 2000 h h16 := (CU_gr g16).more (by omega) (by decide)
  have w16 := WC_0 w4 (DR_sm dr (g16.s (a := d) (by omega) (by omega)) (g16.s (a := s) (by omega) (by omega))) hd hs
  clear g16 g15 g13 g12 g10 g9 g7 g6 g4 g3 w0 w1 w2 w3 w4
  refine xo_g w16.2.1.1.1.1 (xo_b (next_k (E := E) w16.2.1.1 (by omega) (lo := 1) (hi := 3) rfl rfl (by omega) (by omega)) (fun v17 h18 y => ?_))
  obtain ⟨⟨x, rfl, x1, x3⟩, e18⟩ := y
  have w18 := WC_d w16
  rw [← e18] at w18
  have cu18 : CU 7 2000 h h18 := cu16.trans (show CU 0 0 h16 h18 by rw [e18]; exact CU.yi _ _ _)
  refine xlp_inv (Po := fun m => xo m _) (fun j (st : Int32) h' => ∃ gb S l nl k, st = nI (x - j) ∧ WC h' c gb (fun _ => 0) (fun _ => 0) S T0 d s n k l nl (fun _ => 0) ∧ (sng S = j ∧ snm S = 0 ∧ sna S = 0) ∧ l.length ≤ 7 + 23 * j ∧ nl ≤ j ∧ k ≤ 1 + 2 * j ∧ CU (7 + 20 * j) (2000 + 8000 * j) h h') x (by omega) (fun j st h19 ag hj J again => ?_) ⟨_, S0, _, _, _, rfl, w18, ⟨rfl, rfl, rfl⟩, by omega, by omega, by omega, cu18⟩
  obtain ⟨gb, S, l, nl, k, rfl, w19, ⟨n1, n2, n3⟩, hl, hn, hk, cu19⟩ := J
  by_cases e : j = x
  · refine xo_t (by rw [li0, nI_leP (by omega) (by omega)]; omega) ?_
    refine xo_g w19.2.1.1.1.1 (xo_b (next_k (E := E) w19.2.1.1 (by omega) (lo := 1) (hi := 4) rfl rfl (by omega) (by omega)) (fun v20 h21 y => ?_))
    obtain ⟨⟨y, rfl, y1, y4⟩, e21⟩ := y
    have w21 := WC_d w19
    rw [← e21] at w21
    have cu21 : CU 70 30000 h h21 := (cu19.trans (show CU 0 0 h19 h21 by rw [e21]; exact CU.yi _ _ _)).more (by omega) (by omega)
    refine xlp_inv (Po := fun m => xo m _) (fun i (st : Int32) h' => ∃ bm S T l nl k Dd, st = nI (y - i) ∧ WC h' c gb bm (fun _ => 0) S T d s n k l nl Dd ∧ (sng S = x ∧ snm S = i ∧ sna S = 0) ∧ l.length ≤ 568 + 32 * i ∧ nl ≤ 3 + 9 * i ∧ k ≤ 8 + 20 * i ∧ CU (70 + 210 * i) (30000 + 350000 * i) h h') y (by omega) (fun i st h22 ag2 hi J again2 => ?_) ⟨_, S, _, _, _, _, _, rfl, w21, ⟨by omega, n2, n3⟩, by omega, by omega, by omega, cu21⟩
    obtain ⟨bm, S, T, l, nl, k, Dd, rfl, w22, ⟨n1, n2, n3⟩, hl, hn, hk, cu22⟩ := J
    by_cases e2 : i = y
    · refine xo_t (by rw [li0, nI_leP (by omega) (by omega)]; omega) ?_
      refine xo_g w22.2.1.1.1.1 (xo_b (next_k (E := E) w22.2.1.1 (by omega) (lo := 0) (hi := 3) rfl rfl (by omega) (by omega)) (fun v23 h24 q => ?_))
      obtain ⟨⟨u, rfl, -, u3⟩, e24⟩ := q
      have w24 := WC_d w22
      rw [← e24] at w24
      have cu24 : CU 910 1430000 h h24 := (cu22.trans (show CU 0 0 h22 h24 by rw [e24]; exact CU.yi _ _ _)).more (by omega) (by omega)
      refine xlp_inv (Po := fun m => xo m _) (fun r (st : Int32) h' => ∃ ab S T l nl k, st = nI (u - r) ∧ WC h' c gb bm ab S T d s n k l nl Dd ∧ (sng S = x ∧ snm S = y ∧ sna S = r) ∧ l.length ≤ 696 + 47 * r ∧ nl ≤ 39 + r ∧ k ≤ 100 + 4 * r ∧ CU (910 + 60 * r) (1430000 + 110000 * r) h h') u (by omega) (fun r st h25 ag3 hr J again3 => ?_) ⟨_, S, T, _, _, _, rfl, w24, ⟨n1, by omega, n3⟩, by omega, by omega, by omega, cu24⟩
      obtain ⟨ab, S, T, l, nl, k, rfl, w25, ⟨n1, n2, n3⟩, hl, hn, hk, cu25⟩ := J
      by_cases e3 : r = u
      · exact xo_t (by rw [li0, nI_leP (by omega) (by omega)]; omega) (xo_v ⟨gb, bm, ab, S, T, l, nl, k, Dd, w25, ⟨⟨by omega, by omega⟩, ⟨by omega, by omega⟩, by omega⟩, by omega, by omega, by omega, cu25.more (by omega) (by omega)⟩)
      · refine xo_f (by rw [li0, nI_leP (by omega) (by omega)]; omega) (xo_g w25.1.1.k (xo_b (warr_o (E := E) w25 (by omega) (by omega) (by omega) (by omega)) (fun _ h26 q => ?_)))
        obtain ⟨ab', S', T', l', k', w26, ⟨m1, m2, m3⟩, hl', hk', c26⟩ := q
        exact again3 (by omega) _ _ ⟨ab', S', T', l', _, k', (nI_pm (by omega)).trans (congrArg nI (by omega)), w26, ⟨by omega, by omega, by omega⟩, by omega, by omega, by omega, (cu25.trans c26).more (by omega) (by omega)⟩
    · refine xo_f (by rw [li0, nI_leP (by omega) (by omega)]; omega) (xo_g w22.1.1.k (xo_b (wmod_o (E := E) w22 (by omega) n3 (by omega) (by omega) (by omega)) (fun _ h27 q => ?_)))
      obtain ⟨bm', S', T', l', nl', k', D', w27, ⟨m1, m2, m3⟩, hl', hn', hk', c27⟩ := q
      exact again2 (by omega) _ _ ⟨bm', S', T', l', nl', k', D', (nI_pm (by omega)).trans (congrArg nI (by omega)), w27, ⟨by omega, by omega, m3⟩, by omega, by omega, by omega, (cu22.trans c27).more (by omega) (by omega)⟩
  · refine xo_f (by rw [li0, nI_leP (by omega) (by omega)]; omega) (xo_g w19.1.1.k (xo_b (wgroup_o (E := E) w19 (by omega) n2 n3 (by omega) (by omega)) (fun _ h28 q => ?_)))
    obtain ⟨gb', S', l', w28, ⟨m1, m2, m3⟩, hl', c28⟩ := q
    exact again (by omega) _ _ ⟨gb', S', l', _, _, (nI_pm (by omega)).trans (congrArg nI (by omega)), w28, ⟨by omega, m2, m3⟩, by omega, by omega, by omega, (cu19.trans c28).more (by omega) (by omega)⟩
end WI2
