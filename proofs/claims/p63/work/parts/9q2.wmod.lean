/-! The World made: FX12_module. -/
set_option linter.unusedVariables false
section WM2
variable {E : XG} {h h' h0 : XH} {c d s n k : Nat} {gb bm ab : Nat → Nat} {S : SD} {T : ST}
theorem wmod_o {l : List Nat} {nl : Nat} {Dd : Nat → Int32} (w : WC h c gb bm ab S T d s n k l nl Dd) (hk : k + 30 < 1000000) (a0 : sna S = 0) (g0 : 0 < sng S) (m4 : snm S < 4) (hl : l.length ≤ 700) : xo (FX12_module E c d h) (fun _ h' => ∃ bm' S' T' l' nl' k' D', WC h' c gb bm' ab S' T' d s n k' l' nl' D' ∧ (sng S' = sng S ∧ snm S' = snm S + 1 ∧ sna S' = 0) ∧ (l'.length ≤ 600 ∨ l'.length ≤ l.length + 32) ∧ nl' ≤ nl + 9 ∧ k' ≤ k + 20 ∧ CU 210 350000 h h') := by
  have W := w.1.1.ws
  have g6 := W.1.1
  have N := w.2.2.2.2
  have rd := w.2.2.2.1
  have l20 : (wJS 20).length = 9 := by decide +kernel
  have l21 : (wJS 21).length = 2 := by decide +kernel
  unfold FX12_module
  refine xo_g w.1.1.k (xo_g w.2.1.1.1.1 (xo_b (next_k (E := E) w.2.1.1 (by omega) (lo := 0) (hi := sng S - 1) rfl (by rw [w.1.1.i5]; exact nI_sub (b := 1) g0) (by omega) (by omega)) (fun v1 h2 z => ?_)))
  obtain ⟨⟨u, rfl, -, hu⟩, e2⟩ := z
  have hu : u < sng S := by omega
  have w2 := WC_d w
  rw [← e2] at w2
  have c2 : CU 0 0 h h2 := by rw [e2]; exact CU.yi _ _ _
  refine xo_g w2.2.1.1.1.1 (xo_b (next_k (E := E) w2.2.1.1 (by omega) (lo := 0) (hi := 2) rfl rfl (by omega) (by omega)) (fun v3 h4 z => ?_))
  obtain ⟨⟨r, rfl, -, hr⟩, e4⟩ := z
  have w4 := WC_d w2
  rw [← e4] at w4
  have c4 : CU 0 0 h h4 := c2.trans (show CU 0 0 h2 h4 by rw [e4]; exact CU.yi _ _ _)
  refine xo_jk1 (R := fun v h6 => ∃ lo k6, v = nI lo ∧ lo < sng S ∧ WC h6 c gb bm ab S T d s n k6 l nl Dd ∧ k6 ≤ k + 3 ∧ CU 0 0 h h6) (fun v5 h6 z => ?_) (fun j K => ?_)
  · obtain ⟨lo, k6, rfl, hlo, w6, hk6, c6⟩ := z
    refine xo_al (fun h8 e8 => ?_)
    obtain ⟨M, eM⟩ : ∃ M, M = xt h6 := ⟨_, rfl⟩
    have g8 := Gr_ya (Gr_refl nD h6) 22 0
    rw [← e8] at g8
    have g8 : Gr nD 1 6 h6 h8 := g8
    have t8 : xt h8 = M + 1 := by rw [e8, eM]; rfl
    have k8 : xk h8 M = 22 := by rw [e8, eM, xk_ya, if_pos rfl]
    rw [← eM]
    obtain ⟨⟨lw6, o6⟩, ⟨dr6, d1, d2⟩, ⟨r6, A, sb6, hA⟩, -, -⟩ := w6
    have o64 := o6.2.2.2
    have s8 : ∀ a, a < M → smC a h6 h8 := fun a ha => g8.s (by omega) (fun z => z)
    have lw8 : lW h8 c gb bm ab S T := lW_sm lw6 o6 (fun a a1 a2 => s8 a (by omega))
    refine xo_g lw8.k (xo_n lw8.r1 ?_)
    rw [lgrow lw8 hu]
    refine xo_g lw8.k (xo_n lw8.r1 ?_)
    rw [lgrow lw8 hlo]
    have gu := W.2.1 u hu
    have gl := W.2.1 lo hlo
    have ou := o6.1 u hu
    have ol := o6.1 lo hlo
    have wd0 : Wd (dN S u lo) := ⟨⟨gu.1.1, gu.1.2, gl.1.1, gl.1.2⟩, fun a b ha hb => gu.2.cl ha hb, fun a ha => gu.2.iv ha, fun a b ha hb => gl.2.cl ha hb, fun a ha => gl.2.iv ha, fun _ _ => gl.1.1, fun _ a _ ha => ha⟩
    have gd0 : GD (dN S u lo) := ⟨gu.2, gl.2⟩
    refine xo_b (minit_o (E := E) (p1 := nI u) (p2 := nI lo) wd0 gd0 t8 k8 (lw8.tb hu) (lw8.tb hlo) (by show gb u + sgn S u < M; omega) (by show gb lo + sgn S lo < M; omega)) (fun _ h13 z => ?_)
    obtain ⟨m13, i13, t13, g13⟩ := z
    have e13 : xt h13 = M + 3 + sgn S lo := t13
    have s13 : ∀ a, a < M → smC a h6 h13 := fun a ha => smC_t (s8 a ha) (g13.s (by omega) (by omega))
    have vv : sgn S lo * sgn S u ≤ 64 := Nat.mul_le_mul gl.1.2 gu.1.2
    have c13 : CU 11 86 h h13 := (c6.trans ((CU_gr g8).trans (CU_gr g13))).more (by show 0 + (1 + (2 + sgn S lo)) ≤ 11; omega) (by show 0 + (6 + (sgn S u + sgn S lo + sgn S lo * sgn S u)) ≤ 86; omega)
    have H : MH h13 c d s M (M + 2 + sgn S lo) (gb u) (gb lo) (sgn S u) (sgn S lo) gb bm ab S T := ⟨⟨lW_sm lw6 o6 (fun a a1 a2 => s13 a (by omega)), by rw [eM]; exact o6⟩, ((s13 c (by omega)).2.2.2 0).trans r6, ⟨d1, d2⟩, ⟨rfl, by omega⟩, by omega, by omega⟩
    have ms0 : MS h13 c d s n M (M + 2 + sgn S lo) (gb u) (gb lo) h13 k6 (dN S u lo) 0 0 l := ⟨⟨A, SB_sm sb6 (s13 _ (by have := sb6.2.2.1.1; omega)) (s13 _ (by have := sb6.2.2.1.2; omega)) (by omega), hA⟩, Gr_refl _ h13, DR_sm dr6 (s13 d (by omega)) (s13 s (by omega)), m13⟩
    clear s13 s8 g8 g13 lw8 lw6 o6
    refine xo_jk1 (R := fun v h15 => ∃ k15, (v = 0 ∨ (v = 1 ∧ u = lo)) ∧ MS h13 c d s n M (M + 2 + sgn S lo) (gb u) (gb lo) h15 k15 (dN S u lo) 0 0 l ∧ k15 ≤ k6 + 1) (fun v14 h15 z => ?_) (fun j K => ?_)
    · obtain ⟨k15, hv, m15, hk15⟩ := z
      obtain ⟨w15, r15, s15⟩ := MS_w H m15
      refine xo_g w15.k (xo_n r15 (xo_g s15 (xo_b (app_str (MS_p m15) (i := 20) (by decide) (by omega)) (fun v17 h18 y => ?_))))
      obtain ⟨rfl, p18⟩ := y
      have m18 := MS_a H m15 p18
      obtain ⟨w18, -, s18⟩ := MS_w H m18
      refine xo_g w18.k (xo_g s18 ?_)
      rw [w18.i6, let26 _ (by omega)]
      refine xo_b (app_char (MS_p m18) (x := 97 + snm S) (by omega) (by rw [List.length_append]; omega)) (fun v19 h20 y => ?_)
      obtain ⟨rfl, p20⟩ := y
      have m20 := MS_a H m18 p20
      have n20 : ((l ++ wJS 20) ++ [97 + snm S]).length = l.length + 10 := by rw [List.length_append, List.length_append, l20]; rfl
      refine xo_g (MS_w H m20).2.2 (xo_b (app_str (MS_p m20) (i := 21) (by decide) (by omega)) (fun v21 h22 y => ?_))
      obtain ⟨rfl, p22⟩ := y
      have m22 := MS_a H m20 p22
      refine xo_g (MS_w H m22).2.2 ?_
      rw [let26 _ (by omega)]
      refine xo_b (app_char (MS_p m22) (x := 97 + u) (by omega) (by rw [List.length_append]; omega)) (fun v23 h24 y => ?_)
      obtain ⟨rfl, p24⟩ := y
      have m24 := MS_a H m22 p24
      have n24 : ((((l ++ wJS 20) ++ [97 + snm S]) ++ wJS 21) ++ [97 + u]).length = l.length + 13 := by rw [List.length_append, List.length_append, n20, l21]; rfl
      refine xo_g (MS_w H m24).2.2 (xo_b (app_str (MS_p m24) (i := 21) (by decide) (by omega)) (fun v25 h26 y => ?_))
      obtain ⟨rfl, p26⟩ := y
      have m26 := MS_a H m24 p26
      refine xo_g (MS_w H m26).2.2 ?_
      rw [let26 _ (by omega)]
      refine xo_b (app_char (MS_p m26) (x := 97 + lo) (by omega) (by rw [List.length_append]; omega)) (fun v27 h28 y => ?_)
      obtain ⟨rfl, p28⟩ := y
      have m28 := MS_a H m26 p28
      have n28 : ((((((l ++ wJS 20) ++ [97 + snm S]) ++ wJS 21) ++ [97 + u]) ++ wJS 21) ++ [97 + lo]).length = l.length + 16 := by rw [List.length_append, List.length_append, n24, l21]; rfl
      refine wbd_o H hu hlo (m28.more (by omega) (by omega)) (by omega) (by omega) hv (fun h29 f k' hf m29 hk' => ?_)
      have rd29 := RD_mod rd W N (by omega) hu hlo hf
      have n29 := dgT_len f ((((((l ++ wJS 20) ++ [97 + snm S]) ++ wJS 21) ++ [97 + u]) ++ wJS 21) ++ [97 + lo]) (sgn S u)
      rw [n28] at n29
      generalize dgT f ((((((l ++ wJS 20) ++ [97 + snm S]) ++ wJS 21) ++ [97 + u]) ++ wJS 21) ++ [97 + lo]) (sgn S u) = lb at *
      obtain ⟨w29, r29, s29⟩ := MS_w H m29
      have M29 := m29.2.2.2
      obtain ⟨A29, sb29, -⟩ := m29.1
      refine xo_g w29.k (xo_n r29 (xo_g s29 (xo_eb (len_v sb29) (xo_g M29.k (xo_n M29.r4 (xo_g M29.a.1.1.1 ?_))))))
      refine xo_jk1 (R := fun v h36 => h36 = h29 ∧ (v = 0 ∨ lb.length + 26 * sgn S lo < 600)) (fun v35 h36 z => ?_) (fun j K => ?_)
      · obtain ⟨rfl, hv2⟩ := z
        refine wac_o (D1 := fun m => if m = snm S then 0 else Dd m) H hu hlo m29 rd29 (fun x _ => by rw [if_pos rfl]; exact mb_0 x) N m4 hv hv2 (fun h39 e T2 D2 l2 nl2 m39 r39 at39 hn2 hl2 => ?_)
        obtain ⟨w39, r39', s39⟩ := MS_w H m39
        have M39 := m39.2.2.2
        refine xo_g w39.k (xo_n w39.r2 (xo_g w39.k (xo_g ⟨w39.k4.1, M39.k, by rw [w39.i6, w39.k4.2]; exact xin_nI (by omega) (by omega)⟩ ?_)))
        rw [w39.i6, xz_nI (by omega)]
        refine xo_lt ?_
        have kc : xk (yr h39 (c + 4) (snm S) (some M)) c = 23 := w39.k
        refine xo_g kc (xo_g kc ?_)
        rw [xi_yr, w39.i6, nI_s]
        have iM : ∀ j, xi h39 M j = xi h13 M j := fun j => m39.2.1.i (by omega) (fun q => by have := m13.k; unfold mD tD at q; omega) j
        refine xo_lt (xo_v ⟨_, _, _, l2, nl2, k', D2, WC_addm H m39 ⟨(iM 0).trans i13.1, (iM 1).trans i13.2⟩ a0 (by omega) hu hlo r39 at39 N, ⟨rfl, rfl, a0⟩, ?_, by omega, by omega, ?_⟩)
        · rcases hl2 with q | q
          · exact Or.inl q
          · exact Or.inr (by rw [q, n29]; omega)
        · exact (c13.trans ((CU_gr m39.2.1).trans (CU.yi (h := yr h39 (c + 4) (snm S) (some M)) _ _ _))).more (by omega) (by omega)
      · rw [M29.a.1.1.2]
        have e26 : nI lb.length + 26 * Int32.ofNat (sgn S lo) = nI (lb.length + 26 * sgn S lo) := by
          rw [ofNat_nI, show (26 : Int32) = nI 26 from rfl, nI_m, nI_a]
        by_cases q : 600 ≤ lb.length + 26 * sgn S lo
        · exact xo_t (by show (600 : Int32) ≤ nI lb.length + 26 * Int32.ofNat (sgn S lo); rw [e26, show (600 : Int32) = nI 600 from rfl, nI_leP (by omega) (by omega)]; exact q) (K _ _ ⟨rfl, Or.inl rfl⟩)
        · exact xo_f (by show ¬ (600 : Int32) ≤ nI lb.length + 26 * Int32.ofNat (sgn S lo); rw [e26, show (600 : Int32) = nI 600 from rfl, nI_leP (by omega) (by omega)]; exact q) (K _ _ ⟨rfl, Or.inr (by omega)⟩)
    · refine xo_jn ?_
      by_cases q : u = lo
      · refine xo_t (congrArg nI q) (xo_g ms0.2.2.1.1.1 (xo_b (next_k (E := E) ms0.2.2.1 (by omega) (lo := 0) (hi := 1) rfl rfl (by omega) (by omega)) (fun v87 h88 y => ?_)))
        obtain ⟨⟨x, rfl, -, hx⟩, e88⟩ := y
        have m88 := MS_d H ms0
        rw [← e88] at m88
        by_cases x0 : x = 0
        · exact xo_t (by rw [x0]; rfl) (K _ _ ⟨_, Or.inr ⟨rfl, q⟩, m88, Nat.le_refl _⟩)
        · exact xo_f (by rw [nI_eq0 (by omega)]; exact x0) (K _ _ ⟨_, Or.inl rfl, m88, Nat.le_refl _⟩)
      · exact xo_f (fun z => q ((nI_eq (by omega) (by omega)).mp z)) (K _ _ ⟨_, Or.inl rfl, ms0, by omega⟩)
  · by_cases q : r = 0
    · refine xo_t (by rw [q]; exact Int32.le_refl _) (xo_g w4.1.1.k (xo_g w4.2.1.1.1.1 (xo_b (next_k (E := E) w4.2.1.1 (by omega) (lo := 0) (hi := sng S - 1) rfl (by rw [w4.1.1.i5]; exact nI_sub (b := 1) g0) (by omega) (by omega)) (fun v89 h90 y => ?_))))
      obtain ⟨⟨x, rfl, -, hx⟩, e90⟩ := y
      have w90 := WC_d w4
      rw [← e90] at w90
      exact K _ _ ⟨x, _, rfl, by omega, w90, by omega, (c4.trans (show CU 0 0 h4 h90 by rw [e90]; exact CU.yi _ _ _)).more (by omega) (by omega)⟩
    · exact xo_f (by rw [li0, nI_leP (by omega) (by omega)]; omega) (K _ _ ⟨u, _, rfl, hu, w4, by omega, c4⟩)
end WM2
