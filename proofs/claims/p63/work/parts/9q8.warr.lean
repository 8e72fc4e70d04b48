/-! The World made: FX12_arrow. -/
set_option linter.unusedVariables false
section WAR
variable {E : XG} {h h' h0 : XH} {c d s n k : Nat} {gb bm ab : Nat → Nat} {S : SD} {T : ST}
theorem warr_o {l : List Nat} {nl : Nat} {Dd : Nat → Int32} (w : WC h c gb bm ab S T d s n k l nl Dd) (hk : k + 30 < 1000000) (m0 : 0 < snm S) (a8 : sna S < 8) (hl : l.length ≤ 800) : xo (FX12_arrow E c d h) (fun _ h' => ∃ ab' S' T' l' k', WC h' c gb bm ab' S' T' d s n k' l' (nl + 1) Dd ∧ (sng S' = sng S ∧ snm S' = snm S ∧ sna S' = sna S + 1) ∧ l'.length ≤ l.length + 47 ∧ k' ≤ k + 4 ∧ CU 60 110000 h h') := by
  have W := w.1.1.ws
  have m6 := W.1.2.1
  have N := w.2.2.2.2
  have rd := w.2.2.2.1
  have l23 : (wJS 23).length = 8 := by decide +kernel
  have l24 : (wJS 24).length = 2 := by decide +kernel
  unfold FX12_arrow
  refine xo_g w.1.1.k (xo_g w.2.1.1.1.1 (xo_b (next_k (E := E) w.2.1.1 (by omega) (lo := 0) (hi := snm S - 1) rfl (by rw [w.1.1.i6]; exact nI_sub (b := 1) m0) (by omega) (by omega)) (fun v1 h2 z => ?_)))
  obtain ⟨⟨f, rfl, -, hf⟩, e2⟩ := z
  have hf : f < snm S := by omega
  have w2 := WC_d w
  rw [← e2] at w2
  have c2 : CU 0 0 h h2 := by rw [e2]; exact CU.yi _ _ _
  refine xo_g w2.2.1.1.1.1 (xo_b (next_k (E := E) w2.2.1.1 (by omega) (lo := 0) (hi := 1) rfl rfl (by omega) (by omega)) (fun v3 h4 z => ?_))
  obtain ⟨⟨r, rfl, -, hr⟩, e4⟩ := z
  have w4 := WC_d w2
  rw [← e4] at w4
  have c4 : CU 0 0 h h4 := c2.trans (show CU 0 0 h2 h4 by rw [e4]; exact CU.yi _ _ _)
  refine xo_jk1 (R := fun v h6 => ∃ o k6, v = nI o ∧ o < snm S ∧ WC h6 c gb bm ab S T d s n k6 l nl Dd ∧ k6 ≤ k + 3 ∧ CU 0 0 h h6) (fun v5 h6 z => ?_) (fun j K => ?_)
  · obtain ⟨o, k6, rfl, ho, w6, hk6, c6⟩ := z
    obtain ⟨⟨lw6, o6⟩, ⟨dr6, d1, d2⟩, ⟨r6, B, sb6, hB⟩, -, -⟩ := w6
    have o64 := o6.2.2.2
    obtain ⟨u8, l8⟩ := nu_8 W hf
    have mk : ∀ m, m < snm S → (0 ≤ (nI m) ∧ True) := fun m hm => ⟨nI_0le' (by omega), trivial⟩
    refine xo_g lw6.k (xo_n lw6.r2 (xo_g ⟨lw6.k4.1, by rw [lw6.k4.2]; exact xin_nI (by omega) (by omega)⟩ ?_))
    rw [xz_nI (by omega)]
    refine xo_n (lw6.2.2.1 f hf).1 (xo_g lw6.k (xo_n lw6.r2 (xo_g ⟨lw6.k4.1, by rw [lw6.k4.2]; exact xin_nI (by omega) (by omega)⟩ ?_)))
    rw [xz_nI (by omega)]
    refine xo_n (lw6.2.2.1 o ho).1 (xo_al (fun h8 e8 => ?_))
    obtain ⟨A, eA⟩ : ∃ A, A = xt h6 := ⟨_, rfl⟩
    have g8 := Gr_ya (Gr_refl nD h6) 10 0
    rw [← e8] at g8
    have g8 : Gr nD 1 6 h6 h8 := Gr_more g8 (by decide) (by decide)
    have t8 : xt h8 = A + 1 := by rw [e8, eA]; rfl
    have k8 : xk h8 A = 10 := by rw [e8, eA, xk_ya, if_pos rfl]
    rw [← eA]
    have s8 : ∀ a, a < A → smC a h6 h8 := fun a ha => g8.s (by omega) (fun z => z)
    have lw8 : lW h8 c gb bm ab S T := lW_sm lw6 o6 (fun a a1 a2 => s8 a (by omega))
    have mf := (lw8.2.2.1 f hf).2.2
    refine xo_g mf.k (xo_n mf.r5 (xo_g mf.kb (xo_g mf.k (xo_n mf.r4 (xo_g mf.a.1.1.1 ?_)))))
    rw [mf.nb, mf.a.1.1.2]
    refine xo_b (ainit_o (E := E) (f := f) (o := o) (nt := nuS S f) (nb := nlS2 S f) t8 k8 u8.2 l8.2) (fun _ h15 z => ?_)
    obtain ⟨a15, t15, g15⟩ := z
    have s15 : ∀ a, a < A → smC a h6 h15 := fun a ha => smC_t (s8 a ha) (g15.s (by omega) (by omega))
    have c15 : CU 3 22 h h15 := (c6.trans ((CU_gr g8).trans (CU_gr g15))).more (by omega) (by omega)
    have H : AH h15 c d s A gb bm ab S T := ⟨⟨lW_sm lw6 o6 (fun a a1 a2 => s15 a (by omega)), by rw [eA]; exact o6⟩, ((s15 c (by omega)).2.2.2 0).trans r6, ⟨d1, d2⟩, by omega⟩
    have m15 : AX h15 c d s n A f o (nuS S f) (nlS2 S f) h15 k6 (fun _ => 0) (fun _ => 0) 0 0 l := ⟨⟨B, SB_sm sb6 (s15 _ (by have := sb6.2.2.1.1; omega)) (s15 _ (by have := sb6.2.2.1.2; omega)) (by omega), hB⟩, Gr_refl _ h15, DR_sm dr6 (s15 d (by omega)) (s15 s (by omega)), a15⟩
    refine xo_g m15.2.2.1.1.1 (xo_b (next_k (E := E) m15.2.2.1 (by omega) (lo := 0) (hi := 3) rfl rfl (by omega) (by omega)) (fun v16 h17 y => ?_))
    obtain ⟨⟨x, rfl, -, hx⟩, e17⟩ := y
    have m17 := AX_d H m15
    rw [← e17] at m17
    refine xo_jk1 (R := fun v h19 => h19 = h17) (fun v18 h19 z => ?_) (fun j K => ?_)
    · subst z
      obtain ⟨w19, r19, s19⟩ := AX_w H m17
      refine xo_g w19.k (xo_n r19 (xo_g s19 (xo_b (app_str (AX_p m17) (i := 23) (by decide) (by omega)) (fun v21 h22 y => ?_))))
      obtain ⟨rfl, p22⟩ := y
      have m22 := AX_a H m17 p22
      obtain ⟨w22, -, s22⟩ := AX_w H m22
      refine xo_g w22.k (xo_g s22 ?_)
      rw [w22.i7, let26 _ (by omega)]
      refine xo_b (app_char (AX_p m22) (x := 97 + sna S) (by omega) (by rw [List.length_append]; omega)) (fun v23 h24 y => ?_)
      obtain ⟨rfl, p24⟩ := y
      have m24 := AX_a H m22 p24
      have n24 : ((l ++ wJS 23) ++ [97 + sna S]).length = l.length + 9 := by rw [List.length_append, List.length_append, l23]; rfl
      refine xo_g (AX_w H m24).2.2 (xo_b (app_str (AX_p m24) (i := 24) (by decide) (by omega)) (fun v25 h26 y => ?_))
      obtain ⟨rfl, p26⟩ := y
      have m26 := AX_a H m24 p26
      refine xo_g (AX_w H m26).2.2 ?_
      rw [let26 _ (by omega)]
      refine xo_b (app_char (AX_p m26) (x := 97 + f) (by omega) (by rw [List.length_append]; omega)) (fun v27 h28 y => ?_)
      obtain ⟨rfl, p28⟩ := y
      have m28 := AX_a H m26 p28
      have n28 : ((((l ++ wJS 23) ++ [97 + sna S]) ++ wJS 24) ++ [97 + f]).length = l.length + 12 := by rw [List.length_append, List.length_append, n24, l24]; rfl
      refine xo_g (AX_w H m28).2.2 (xo_b (app_str (AX_p m28) (i := 24) (by decide) (by omega)) (fun v29 h30 y => ?_))
      obtain ⟨rfl, p30⟩ := y
      have m30 := AX_a H m28 p30
      refine xo_g (AX_w H m30).2.2 ?_
      rw [let26 _ (by omega)]
      refine xo_b (app_char (AX_p m30) (x := 97 + o) (by omega) (by rw [List.length_append]; omega)) (fun v31 h32 y => ?_)
      obtain ⟨-, p32⟩ := y
      have m32 := AX_a H m30 p32
      have n32 : ((((((l ++ wJS 23) ++ [97 + sna S]) ++ wJS 24) ++ [97 + f]) ++ wJS 24) ++ [97 + o]).length = l.length + 15 := by rw [List.length_append, List.length_append, n28, l24]; rfl
      refine wtop_o (a := 6) H hf ho (m32.more (by omega) (by omega)) (by omega) (fun h33 p hp m33 => ?_)
      have M33 := m33.2.2.2
      refine wlow_o (a := 22) H hf ho m33 (by rw [dgT_len]; omega) (fun h35 q hq m35 => ?_)
      obtain ⟨w35, r35, s35⟩ := AX_w H m35
      have rd35 := RD_arr rd W N a8 hf ho hp hq
      refine xo_g w35.k (xo_n w35.r3 (xo_g w35.k (xo_g ⟨w35.k5.1, m35.2.2.2.1.1, by rw [w35.i7, w35.k5.2]; exact xin_nI (by omega) (by omega)⟩ ?_)))
      rw [w35.i7, xz_nI (by omega)]
      refine xo_lt ?_
      have kc : xk (yr h35 (c + 5) (sna S) (some A)) c = 23 := w35.k
      refine xo_g kc (xo_g kc ?_)
      rw [xi_yr, w35.i7, nI_s]
      refine xo_lt (xo_v ⟨_, _, _, _, _, WC_adda H m35 a8 hf ho hp hq rd35 N, ⟨rfl, rfl, rfl⟩, ?_, by omega, ?_⟩)
      · rw [dgT_len, dgT_len, n32]; omega
      · exact (c15.trans ((CU_gr m35.2.1).trans (CU.yi (h := yr h35 (c + 5) (sna S) (some A)) _ _ _))).more (by omega) (by omega)
    · by_cases q : x = 0
      · exact xo_t (by rw [q]; exact Int32.le_refl _) (K _ _ rfl)
      · exact xo_f (by rw [li0, nI_leP (by omega) (by omega)]; omega) (K _ _ rfl)
  · by_cases q : r = 0
    · exact xo_t (by rw [q]; rfl) (K _ _ ⟨f, _, rfl, hf, w4, by omega, c4⟩)
    · refine xo_f (by rw [nI_eq0 (by omega)]; exact q) (xo_g w4.1.1.k (xo_g w4.2.1.1.1.1 (xo_b (next_k (E := E) w4.2.1.1 (by omega) (lo := 0) (hi := snm S - 1) rfl (by rw [w4.1.1.i6]; exact nI_sub (b := 1) m0) (by omega) (by omega)) (fun v89 h90 y => ?_))))
      obtain ⟨⟨x, rfl, -, hx⟩, e90⟩ := y
      have w90 := WC_d w4
      rw [← e90] at w90
      exact K _ _ ⟨x, _, rfl, by omega, w90, by omega, (c4.trans (show CU 0 0 h4 h90 by rw [e90]; exact CU.yi _ _ _)).more (by omega) (by omega)⟩
end WAR
