/-! Strings made; the draws. -/
set_option linter.unusedVariables false
theorem xo_al {α : Type} {h : XH} {g n : Nat} {f : Nat → XH → XP α} {Q : α → XH → Prop} (hm : ∀ h', h' = ya h g n → xo (f (xt h) h') Q) : xo (xal h g n f) Q := hm _ rfl
section STRS
variable {E : XG} {h h' : XH} {b A s V : Nat} {l : List Nat} {D : Nat → Prop} {c u : Nat} {h0 : XH}
theorem init_str (g : Gr D c u h0 h) (k : xk h b = 24) (z : ∀ j, xi h b j = 0) (tb : b < xt h) (db : b < xt h0 → D b) {i : Nat} (hi : i < nJS) (hl : (wJS i).length ≤ 24) : xo (FJ4_init_a7421 E b i h) (fun _ h1 => AP D (c + 2) (u + 1900) h0 b h1 (wJS i)) := by
  obtain ⟨w1, w2, w3⟩ := wJS_all i hi
  unfold FJ4_init_a7421
  refine xo_b (Q := fun _ h1 => AP D (c + 2) (u + 1900) h0 b h1 (wJS i)) ?_ (fun _ h1 q => xo_v q)
  unfold FJ5_init_a7421
  refine xo_g hi (xo_eb (show FJ0_length i h = xv (nI (wJS i).length) h from by unfold FJ0_length; rw [xg_t hi, w1]; rfl) (xo_jn (xo_f ?_ ?_)))
  · rw [show (2147483631 : Int32) = nI 2147483631 from rfl, nI_leP (by omega) (by omega)]; omega
  · rw [show nI (wJS i).length + 16 = nI ((wJS i).length + 16) from nI_a _ 16]
    refine xo_g hi (xo_eb (show FJ0_coder i h = xv 0 h from xg_t hi) (xo_g ⟨k, rfl⟩ (xo_wi (fun h7 e7 => xo_t rfl (xo_g ⟨nI_0le' (by omega), by rw [xz_nI (by omega)]; omega⟩ ?_)))))
    rw [xz_nI (by omega)]
    refine xo_al (fun h9 e9 => ?_)
    have t7 : xt h7 = xt h := by rw [e7]; rfl
    have nb : ¬ b = xt h7 := by omega
    have k9 : xk h9 b = 24 := by rw [e9, xk_ya, if_neg nb, e7]; exact k
    refine xo_g k9 (xo_wr (fun h10 e10 => ?_))
    have k10 : xk h10 b = 24 := by rw [e10]; exact k9
    have i10 : ∀ j, xi h10 b j = 0 := fun j => by
      rw [e10, xi_yr, e9, xi_ya, if_neg nb, e7, xi_yi]
      split
      · rfl
      · exact z j
    have g7 : Gr D c u h0 h7 := by rw [e7]; exact Gr_yi g tb db
    have g9 := Gr_ya g7 11 ((wJS i).length + 16)
    rw [← e9] at g9
    have g10 := Gr_yr (a := b) (k := 0) (x := some (xt h7)) g9 db
    rw [← e10] at g10
    have t0 := g.t
    have n10 : xn h10 (xt h7) = (wJS i).length + 16 := by rw [e10, xn_yr, e9, xn_ya, if_pos rfl]
    have p : AP D (c + 1) (u + 40) h0 b h10 [] := by
      refine ⟨xt h7, ⟨⟨k10, by rw [e10, xr_yr, if_pos ⟨rfl, rfl⟩], i10 1, i10 3⟩, ⟨by rw [e10, xk_yr, e9, xk_ya, if_pos rfl], Nat.zero_le _, by rw [n10]; show _ ≤ 2 * 0 + 40; omega⟩, ⟨by rw [e10, xt_yr, e9, xt_ya]; omega, by rw [e10, xt_yr, e9, xt_ya]; omega⟩, fun j hj => absurd hj (Nat.not_lt_zero _), fun j hj => by rw [e10, xi_yr, e9, xi_ya, if_pos rfl]; decide⟩, ⟨db, fun y => by omega⟩, Gr_more g10 (Nat.le_refl _) ?_⟩
      show u + ((wJS i).length + 16) ≤ _
      omega
    refine xo_g k10 (xo_b (Q := fun v h1 => AP D (c + 2) (u + 1900) h0 b h1 (wJS i)) ?_ (fun _ h1 q => xo_v q))
    unfold FJ4_append_cf1ce
    refine xo_g k10 (xo_b (app_str p hi (by show 0 + _ ≤ 900; omega)) (fun v h1 q => xo_v ?_))
    have q2 := q.2
    rw [List.nil_append] at q2
    exact q2.more (by omega) (by omega)
theorem init_0 (g : Gr D c u h0 h) (k : xk h b = 24) (z : ∀ j, xi h b j = 0) (tb : b < xt h) (db : b < xt h0 → D b) : xo (FJ4_init_da8c8 E b h) (fun _ h1 => AP D (c + 1) (u + 16) h0 b h1 []) := by
  unfold FJ4_init_da8c8
  refine xo_b (Q := fun _ h1 => AP D (c + 1) (u + 16) h0 b h1 []) ?_ (fun _ h1 q => xo_v q)
  unfold FJ5_init_d00df
  refine xo_f (by decide) (xo_g (by decide) ?_)
  rw [show (16 : Int32).toNatClampNeg = 16 from rfl]
  refine xo_al (fun h2 e2 => ?_)
  have nb : ¬ b = xt h := by omega
  have k2 : xk h2 b = 24 := by rw [e2, xk_ya, if_neg nb]; exact k
  refine xo_g k2 (xo_wr (fun h3 e3 => xo_g ⟨by rw [e3]; exact k2, rfl⟩ (xo_wi (fun h4 e4 => xo_v ?_))))
  have i4 : ∀ j, xi h4 b j = 0 := fun j => by
    rw [e4, xi_yi]
    split
    · rfl
    · rw [e3, xi_yr, e2, xi_ya, if_neg nb]; exact z j
  have g2 := Gr_ya g 11 16
  rw [← e2] at g2
  have g3 := Gr_yr (a := b) (k := 0) (x := some (xt h)) g2 db
  rw [← e3] at g3
  have t0 := g.t
  have g4 := Gr_yi (a := b) (k := 1) (x := 0) g3 (by rw [e3, xt_yr, e2, xt_ya]; omega) db
  rw [← e4] at g4
  have n4 : xn h4 (xt h) = 16 := by rw [e4, xn_yi, e3, xn_yr, e2, xn_ya, if_pos rfl]
  refine ⟨xt h, ⟨⟨by rw [e4, xk_yi, e3]; exact k2, by rw [e4, xr_yi, e3, xr_yr, if_pos ⟨rfl, rfl⟩], i4 1, i4 3⟩, ⟨by rw [e4, xk_yi, e3, xk_yr, e2, xk_ya, if_pos rfl], Nat.zero_le _, by rw [n4]; show _ ≤ 2 * 0 + 40; omega⟩, ⟨by rw [e4, xt_yi, e3, xt_yr, e2, xt_ya]; omega, by rw [e4, xt_yi, e3, xt_yr, e2, xt_ya]; omega⟩, fun j hj => absurd hj (Nat.not_lt_zero _), fun j hj => by rw [e4, xi_yi2 _ _ (Or.inl (fun y => nb y.symm)), e3, xi_yr, e2, xi_ya, if_pos rfl]; decide⟩, ⟨db, fun y => by omega⟩, Gr_more g4 (Nat.le_refl _) (Nat.le_refl _)⟩
theorem SR_sm (q : SR h s V l) (e1 : smC s h h') (e2 : smC V h h') : SR h' s V l :=
  ⟨⟨e1.1.1.trans q.1.1, (e1.2.2.2 _).trans q.1.2.1, (e1.2.1 _).trans q.1.2.2⟩, ⟨e2.1.1.trans q.2.1.1, e2.1.2.trans q.2.1.2⟩, fun i hi => ⟨(e2.2.1 _).trans (q.2.2 i hi).1, (q.2.2 i hi).2⟩⟩
/-- a String made of a builder's letters -/
theorem toS (p : AP D c u h0 b h l) (hl : l.length ≤ 900) : xo (FJ4_toString_0e30d E b h) (fun s h1 => s = xt h ∧ SR h1 (xt h) (xt h + 1) l ∧ xt h1 = xt h + 2 ∧ Gr D (c + 2) (u + 904) h0 h1) := by
  obtain ⟨A, q, -, g⟩ := p
  obtain ⟨⟨q1, q2, q3, q4⟩, ⟨q5, q6, q7⟩, ⟨q8, q9⟩, q10, q11⟩ := q
  have hA : xn h A < 4000 := by omega
  have t0 := g.t
  unfold FJ4_toString_0e30d
  refine xo_al (fun h2 e2 => ?_)
  have nb : ¬ b = xt h := by omega
  have nA : ¬ A = xt h := by omega
  have k2 : xk h2 b = 24 := by rw [e2, xk_ya, if_neg nb]; exact q1
  have r2 : xr h2 b 0 = some A := by rw [e2, xr_ya, if_neg nb]; exact q2
  have c2 : xi h2 b 1 = 0 := by rw [e2, xi_ya, if_neg nb]; exact q3
  have n2 : xi h2 b 3 = nI l.length := by rw [e2, xi_ya, if_neg nb]; exact q4
  have ks : xk h2 (xt h) = 25 := by rw [e2, xk_ya, if_pos rfl]
  have g2 := Gr_ya g 25 0
  rw [← e2] at g2
  refine xo_b (Q := fun _ h1 => SR h1 (xt h) (xt h + 1) l ∧ xt h1 = xt h + 2 ∧ Gr D (c + 2) (u + 904) h0 h1) ?_ (fun _ h3 z => xo_v ⟨rfl, z⟩)
  unfold FJ0_init_81219
  refine xo_b (Q := fun _ h1 => SR h1 (xt h) (xt h + 1) l ∧ xt h1 = xt h + 2 ∧ Gr D (c + 2) (u + 904) h0 h1) ?_ (fun _ h3 z => xo_v z)
  unfold FJ0_init_db425
  refine xo_g k2 (xo_eb (show FJ5_getValue_6d5f1 E b h2 = xv A h2 from by unfold FJ5_getValue_6d5f1; rw [xg_t k2, xnn_e r2]) (xo_g k2 (xo_eb (show FJ4_length_8abf5 E b h2 = xv (nI l.length) h2 from by unfold FJ4_length_8abf5 FJ5_length_8abf5; rw [xg_t k2, xg_t k2, n2]; rfl) (xo_g k2 (xo_eb (show FJ5_isLatin1_aae02 E b h2 = xv 1 h2 from by
    unfold FJ5_isLatin1_aae02
    rw [xjn_d, xjn_d, if_neg (by decide), xg_t k2, if_pos c2]
    exact xg_t (Or.inr rfl)) (xo_jn (xo_f (by decide) (xo_g ⟨ks, rfl⟩ (xo_wi (fun h13 e13 => ?_))))))))))
  have t13 : xt h13 = xt h + 1 := by rw [e13, e2]; rfl
  have kA : xk h13 A = 11 := by rw [e13, xk_yi, e2, xk_ya, if_neg nA]; exact q5
  have nnA : xn h13 A = xn h A := by rw [e13, xn_yi, e2, xn_ya, if_neg nA]
  have iA : ∀ j, xi h13 A j = xi h A j := fun j => by rw [e13, xi_yi2 _ _ (Or.inl nA), e2, xi_ya, if_neg nA]
  have g13 : Gr D (c + 1) (u + 4) h0 h13 := by
    have := Gr_yi (a := xt h) (k := 1) (x := 0) g2 (by rw [e2]; exact Nat.lt_succ_self _) (fun y => by omega)
    rw [← e13] at this
    exact this
  have cp : xo (FJ7_copyOfRange_39247 E A 0 (nI l.length) h13) (fun w h15 => w = xt h13 ∧ ∃ f, h15 = yc (ya h13 11 l.length) (xt h13) f ∧ ∀ i, i < l.length → f i = xi h A i) := by
    unfold FJ7_copyOfRange_39247
    refine xo_jn (xo_t rfl (xo_g kA ?_))
    rw [nnA]
    by_cases ce : l.length = xn h A
    · refine xo_t (by rw [ce]; rfl) (xo_g ⟨kA, fun i hi => by rw [iA]; exact q11 i hi⟩ ?_)
      unfold xcl
      rw [nnA, ← ce]
      refine xo_g (by rw [xk_yc, xk_ya, if_pos rfl]) (xo_v ⟨rfl, _, rfl, fun i hi => iA i⟩)
    · refine xo_f (by rw [ofNat_nI, nI_eqP (by omega) (by omega)]; exact ce) ?_
      refine xo_b (Q := fun w h15 => w = xt h13 ∧ ∃ f, h15 = yc (ya h13 11 l.length) (xt h13) f ∧ ∀ i, i < l.length → f i = xi h A i) ?_ (fun _ h3 z => xo_v z)
      unfold FJ7_copyOfRangeByte_39247
      refine xo_eb (show FJ7_checkLength_df160 E 0 (nI l.length) h13 = xv () h13 from if_pos (nI_0le' (by omega))) (xo_lt ?_)
      rw [Int32.sub_zero]
      refine xo_g ⟨nI_0le' (by omega), by rw [xz_nI (by omega)]; omega⟩ ?_
      rw [xz_nI (by omega)]
      refine xo_al (fun h4 e4 => ?_)
      have nA4 : ¬ A = xt h13 := by omega
      have k4 : xk h4 A = 11 := by rw [e4, xk_ya, if_neg nA4]; exact kA
      have n4 : xn h4 A = xn h A := by rw [e4, xn_ya, if_neg nA4]; exact nnA
      have i4 : ∀ j, xi h4 A j = xi h A j := fun j => by rw [e4, xi_ya, if_neg nA4]; exact iA j
      refine xo_g k4 ?_
      rw [n4, ofNat_nI, Int32.sub_zero]
      refine xo_eb (show FJ9_min_7cf53 E (nI (xn h A)) (nI l.length) h4 = xv (nI l.length) h4 from if_pos (by rw [nI_ltP (by omega) (by omega)]; omega)) ?_
      rw [show (0 : Int32).toNatClampNeg = 0 from rfl, xz_nI (by omega)]
      refine xo_g ⟨⟨k4, by rw [e4, xk_ya, if_pos rfl]⟩, ⟨by decide, by decide, nI_0le' (by omega)⟩, by rw [n4]; omega, by rw [e4, xn_ya, if_pos rfl]; omega, fun i hi => by rw [Nat.zero_add, i4]; exact q11 i (by omega)⟩ (xo_lt (xo_v ⟨rfl, _, by rw [e4], fun i hi => ?_⟩))
      unfold va_cpy
      rw [if_pos ⟨Nat.zero_le _, by omega⟩, ← e4, i4]
      congr 1
      omega
  refine xo_b cp (fun w h15 z => ?_)
  obtain ⟨rfl, f, e15, hf⟩ := z
  have ns : ¬ xt h = xt h13 := by omega
  have k15 : xk h15 (xt h) = 25 := by rw [e15, xk_yc, xk_ya, if_neg ns, e13, xk_yi]; exact ks
  refine xo_g k15 (xo_wr (fun h16 e16 => xo_v ⟨⟨⟨by rw [e16]; exact k15, by rw [e16, xr_yr, if_pos ⟨rfl, rfl⟩, t13], ?_⟩, ⟨?_, ?_⟩, fun i hi => ⟨?_, (q10 i hi).2⟩⟩, ?_, ?_⟩))
  · rw [e16, xi_yr, e15, xi_yc, if_neg ns, xi_ya, if_neg ns, e13, xi_yi1]
  · rw [← t13, e16, xk_yr, e15, xk_yc, xk_ya, if_pos rfl]
  · rw [← t13, e16, xn_yr, e15, xn_yc, xn_ya, if_pos rfl]
  · rw [← t13, e16, xi_yr, e15, xi_yc, if_pos rfl, hf i hi]; exact (q10 i hi).1
  · rw [e16, xt_yr, e15, xt_yc, xt_ya, t13]
  · have g14 := Gr_ya g13 11 l.length
    have g15 := Gr_yc (a := xt h13) (f := f) g14 (Nat.lt_succ_self _) (fun y => by omega)
    rw [← e15] at g15
    rw [e16]
    exact Gr_more (Gr_yr g15 (fun y => by omega)) (by omega) (by show u + 4 + l.length ≤ _; omega)
theorem cod_T (q : SR h s V l) : FJ0_coder_7d493T E s h = xv 0 h := by
  unfold FJ0_coder_7d493T
  rw [xjn_d, if_neg (by decide), xg_t q.1.1, q.1.2.2]
  exact xg_t rfl
theorem len_T (q : SR h s V l) (hl : l.length ≤ 900) : FJ0_length_8abf5T E s h = xv (nI l.length) h := by
  unfold FJ0_length_8abf5T
  rw [xg_t q.1.1, xnn_e q.1.2.1, xg_t q.2.1.1, xg_t q.1.1, cod_T q, xb_v, q.2.1.2, ofNat_nI, sr0 _ (by omega)]
theorem chr_T (q : SR h s V l) (hl : l.length ≤ 900) {i : Nat} (hi : i < l.length) : FJ0_charAt_5068eT E s (nI i) h = xv (nI (l.getD i 0)) h := by
  obtain ⟨v1, v2⟩ := q.2.2 i hi
  have c128 := ch128 _ v2
  have la : FJ0_isLatin1_aae02T E s h = xv 1 h := by
    unfold FJ0_isLatin1_aae02T
    rw [xjn_d, xjn_d, if_neg (by decide), xg_t q.1.1, if_pos q.1.2.2]
    exact xg_t (Or.inr rfl)
  have c1 : FJ1_charAt_3b067T E V (nI i) h = xv (nI (l.getD i 0)) h := by
    unfold FJ1_charAt_3b067T
    rw [xg_t q.2.1.1, q.2.1.2, ofNat_nI, show FJ0_checkIndex (nI i) (nI l.length) h = xv () h from xg_t ⟨nI_0le' (by omega), by rw [nI_ltP (by omega) (by omega)]; exact hi⟩, xb_v, xg_t ⟨q.2.1.1, by rw [q.2.1.2]; exact xin_nI' hi (by omega)⟩, xz_nI (by omega), v1, c128.1, xg_t c128.2]
  unfold FJ0_charAt_5068eT
  rw [xg_t q.1.1, la, xb_v, if_neg (by decide), xg_t q.1.1, xnn_e q.1.2.1, c1, xb_v, xg_t c128.2]
/-- the draws of a script of n cells, k of them made -/
def DR (h : XH) (d s n k : Nat) : Prop := (xk h d = 21 ∧ xr h d 0 = some s ∧ xi h d 1 = nI k) ∧ (xk h s = 27 ∧ xn h s = n) ∧ n < 10000
theorem msk (x : Int32) : ∃ y, y < 2 ^ 31 ∧ x &&& 2147483647 = nI y := by
  refine ⟨x.toBitVec.toNat % 2 ^ 31, Nat.mod_lt _ (by decide), Int32.toBitVec_inj.mp (BitVec.eq_of_toNat_eq ?_)⟩
  show (x.toBitVec &&& 2147483647#32).toNat = (BitVec.ofNat 32 (x.toBitVec.toNat % 2 ^ 31)).toNat
  rw [BitVec.toNat_and, BitVec.toNat_ofNat, BitVec.toNat_ofNat, show 2147483647 % 2 ^ 32 = 2 ^ 31 - 1 from rfl, Nat.and_two_pow_sub_one_eq_mod, Nat.mod_eq_of_lt (a := x.toBitVec.toNat % 2 ^ 31) (by omega)]
theorem next_o {d n k lo hi : Nat} (q : DR h d s n k) (hk : k < 10000000) (h1 : lo ≤ hi) (h2 : hi < 1000) : xo (FX10_next E d (nI lo) (nI hi) h) (fun v h' => (∃ x, v = nI x ∧ lo ≤ x ∧ x ≤ hi) ∧ h' = yi h d 1 (nI (k + 1))) := by
  obtain ⟨⟨q1, q2, q3⟩, ⟨q4, q5⟩, q6⟩ := q
  have key : ∀ y, y < 2 ^ 31 → xo ((fun (v2 : Int32) (h3 : XH) => xg (xk h3 d = 21) <| xg (xk h3 d = 21) <| xlt (yi h3 d 1 ((xi h3 d 1) + 1)) fun h4 => xg ((((nI hi - nI lo) + 1) : Int32) ≠ 0) <| xv (nI lo + (xrem v2 ((nI hi - nI lo) + 1))) h4) (nI y) h) (fun v h' => (∃ x, v = nI x ∧ lo ≤ x ∧ x ≤ hi) ∧ h' = yi h d 1 (nI (k + 1))) := fun y hy => by
    have ew : nI hi - nI lo + 1 = nI (hi - lo + 1) := by rw [nI_sub h1, nI_s]
    show xo (xg (xk h d = 21) <| xg (xk h d = 21) <| xlt (yi h d 1 ((xi h d 1) + 1)) fun h4 => xg ((((nI hi - nI lo) + 1) : Int32) ≠ 0) <| xv (nI lo + (xrem (nI y) ((nI hi - nI lo) + 1))) h4) _
    rw [ew, q3, nI_s]
    refine xo_g q1 (xo_g q1 (xo_lt (xo_g (show nI (hi - lo + 1) ≠ 0 from by rw [Ne, nI_eq0 (by omega)]; omega) (xo_v ⟨⟨lo + y % (hi - lo + 1), ?_, by omega, ?_⟩, rfl⟩))))
    · rw [rem_nI hy (by omega) (by omega), nI_a]
    · have := Nat.mod_lt y (show 0 < hi - lo + 1 by omega)
      omega
  unfold FX10_next
  refine xo_g q1 (xo_g q1 (xo_n q2 (xo_g q4 (xo_jn ?_))))
  rw [q3, q5, ofNat_nI]
  by_cases ck : n ≤ k
  · exact xo_t (by rw [nI_leP (by omega) (by omega)]; exact ck) (key 0 (by decide))
  · obtain ⟨y, hy, ey⟩ := msk (xi h s k)
    refine xo_f (by rw [nI_leP (by omega) (by omega)]; exact ck) (xo_g q1 (xo_n q2 (xo_g q1 (xo_g ⟨q4, by rw [q5]; exact xin_nI' (by omega) (by omega)⟩ ?_))))
    rw [xz_nI (by omega), ey]
    exact key y hy
end STRS
