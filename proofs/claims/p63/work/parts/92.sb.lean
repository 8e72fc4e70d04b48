/-! StringBuilder and String over a list of letters. -/
set_option linter.unusedVariables false
/-- the StringBuilder b over the row A holds l -/
def SB (h : XH) (b A : Nat) (l : List Nat) : Prop := (xk h b = 24 ∧ xr h b 0 = some A ∧ xi h b 1 = 0 ∧ xi h b 3 = nI l.length) ∧ (xk h A = 11 ∧ l.length ≤ xn h A ∧ xn h A ≤ 2 * l.length + 40) ∧ (b < xt h ∧ A < xt h) ∧ (∀ i, i < l.length → xi h A i = nI (l.getD i 0) ∧ l.getD i 0 < 128) ∧ ∀ i, i < xn h A → xby (xi h A i)
/-- the String s over the row V is l -/
def SR (h : XH) (s V : Nat) (l : List Nat) : Prop := (xk h s = 25 ∧ xr h s 0 = some V ∧ xi h s 1 = 0) ∧ (xk h V = 11 ∧ xn h V = l.length) ∧ ∀ i, i < l.length → xi h V i = nI (l.getD i 0) ∧ l.getD i 0 < 128
theorem sr0' (x : Int32) : x >>> ((0 : Int32) &&& 31) = x := by
  rw [show ((0 : Int32) &&& 31) = 0 from by decide]
  first | exact Int32.shiftRight_zero | simp
theorem sl0' (x : Int32) : x <<< ((0 : Int32) &&& 31) = x := by
  rw [show ((0 : Int32) &&& 31) = 0 from by decide]
  first | exact Int32.shiftLeft_zero | simp
theorem sr0 (n : Nat) (_ : n < 4000) : nI n >>> ((0 : Int32) &&& 31) = nI n := sr0' _
theorem sl0 (n : Nat) (_ : n < 4000) : nI n <<< ((0 : Int32) &&& 31) = nI n := sl0' _
theorem by128 : ∀ c, c < 128 → xby (nI c) := by decide +kernel
theorem nar128 : ∀ c, c < 128 → vp_nar .byte (Int8.toInt32 (Int32.toInt8 (nI c))) = nI c ∧ ¬ (255 : Int32) < nI c := by decide +kernel
theorem ch128 : ∀ c, c < 128 → ((Int32.toUInt32 (nI c &&& 255)) % 65536).toInt32 = nI c ∧ xch (nI c) := by decide +kernel
theorem dgt10 : ∀ v, v < 10 → vp_nar .byte (nI (48 + (- (- nI v)).toNatClampNeg % 10)) = nI (48 + v) ∧ ¬ nI v < 0 ∧ 0 ≤ nI v ∧ (-100 : Int32) < - nI v ∧ (-9 : Int32) ≤ - nI v ∧ xin (- (- nI v)) 100 ∧ ¬ (- nI v ≤ (-10 : Int32)) := by decide +kernel
theorem let26 : ∀ k, k < 26 → ((Int32.toUInt32 (97 + nI k)) % 65536).toInt32 = nI (97 + k) := by decide +kernel
theorem wJS_all : ∀ i, i < nJS → lenJS.getD i 0 = (wJS i).length ∧ (wJS i).length < 100 ∧ ∀ k, k < (wJS i).length → (bytJS.getD i []).getD k 0 = nI ((wJS i).getD k 0) ∧ (wJS i).getD k 0 < 128 ∧ xby ((bytJS.getD i []).getD k 0) := by decide +kernel
theorem nI_0le' {k : Nat} (hk : k < 2 ^ 31) : (0 : Int32) ≤ nI k := of_eq_true (nI_0le hk)
theorem xin_nI' {k n : Nat} (hk : k < n) (hk2 : k < 2 ^ 31) : xin (nI k) n := ⟨nI_0le' hk2, by rw [xz_nI hk2]; exact hk⟩
theorem add_m1 (x : Int32) : x + 1 + (-1) = x := by
  rw [Int32.add_assoc, show (1 : Int32) + (-1) = 0 from by decide, Int32.add_zero]
theorem add_sub32 (x y : Int32) : x + y - y = x := by
  rw [Int32.sub_eq_add_neg, Int32.add_assoc, Int32.add_right_neg, Int32.add_zero]
theorem nI_sub {a b : Nat} (h : b ≤ a) : nI a - nI b = nI (a - b) := by
  have e : nI a = nI (a - b) + nI b := by rw [nI_a, Nat.sub_add_cancel h]
  rw [e, add_sub32]
theorem neg_le00 : ∀ a, a < 71 → ∀ b, b < 71 → - nI (71 * a + b) ≤ 0 ∧ (0 < 71 * a + b → ¬ nI (71 * a + b) ≤ 0) := by decide +kernel
theorem neg_le0 (k : Nat) (h : k < 5000) : - nI k ≤ 0 ∧ (0 < k → ¬ nI k ≤ 0) := by
  have e : 71 * (k / 71) + k % 71 = k := Nat.div_add_mod k 71
  have q := neg_le00 (k / 71) (by omega) (k % 71) (by omega)
  rw [e] at q
  exact q
theorem sub_le0 {a b : Nat} (hb : b < 5000) (h : a ≤ b) : nI a - nI b ≤ 0 := by
  have e : nI b = nI (b - a) + nI a := by rw [nI_a, Nat.sub_add_cancel h]
  have e2 : nI a - nI b = - nI (b - a) := by
    rw [e, Int32.sub_eq_add_neg, Int32.neg_add, Int32.sub_eq_add_neg, Int32.add_comm (- nI (b - a)), ← Int32.add_assoc, Int32.add_right_neg, Int32.zero_add]
  rw [e2]
  exact (neg_le0 _ (by omega)).1
theorem sub_gt0 {a b : Nat} (ha : a < 5000) (h : b < a) : ¬ nI a - nI b ≤ 0 := by
  rw [nI_sub (Nat.le_of_lt h)]
  exact (neg_le0 _ (by omega)).2 (by omega)
section SBS
variable {E : XG} {h h' : XH} {b A s V : Nat} {l : List Nat}
theorem SB.k (q : SB h b A l) : xk h b = 24 := q.1.1
theorem SB.r (q : SB h b A l) : xr h b 0 = some A := q.1.2.1
theorem SB.i1 (q : SB h b A l) : xi h b 1 = 0 := q.1.2.2.1
theorem SB.i3 (q : SB h b A l) : xi h b 3 = nI l.length := q.1.2.2.2
theorem SB.ka (q : SB h b A l) : xk h A = 11 := q.2.1.1
theorem SB.ne (q : SB h b A l) : ¬ A = b := fun e => by have a := q.k; have c := q.ka; rw [e] at c; omega
theorem gD_app {l m : List Nat} {i : Nat} : (l ++ m).getD i 0 = if i < l.length then l.getD i 0 else m.getD (i - l.length) 0 := by
  simp only [List.getD_eq_getElem?_getD]
  split
  · rw [List.getElem?_append_left ‹_›]
  · rw [List.getElem?_append_right (by omega)]
theorem len_v (q : SB h b A l) : FJ4_length_8abf5 E b h = xv (nI l.length) h := by
  unfold FJ4_length_8abf5 FJ5_length_8abf5
  (try dsimp only); (rw [xg_t (q.k), xg_t (q.k), q.i3])
  rfl
theorem lat_v (q : SB h b A l) : FJ5_isLatin1_aae02 E b h = xv 1 h := by
  unfold FJ5_isLatin1_aae02
  rw [xjn_d, xjn_d, if_neg (by decide), xg_t q.k, if_pos q.i1]
  exact xg_t (Or.inr rfl)
/-- room for m letters -/
theorem ens_o (q : SB h b A l) {m : Nat} (hm : m ≤ 1000) (hl : l.length ≤ m) : xo (FJ5_ensureCapacityInternal_d00df E b (nI m) h) (fun _ h1 => ∃ A1, ((xk h1 b = 24 ∧ xr h1 b 0 = some A1 ∧ xi h1 b 1 = 0 ∧ xi h1 b 3 = nI l.length) ∧ (xk h1 A1 = 11 ∧ m ≤ xn h1 A1 ∧ xn h1 A1 ≤ 2 * m + 40) ∧ (b < xt h1 ∧ A1 < xt h1) ∧ (∀ i, i < l.length → xi h1 A1 i = nI (l.getD i 0)) ∧ ∀ i, i < xn h1 A1 → xby (xi h1 A1 i)) ∧ (A1 = A ∨ A1 = xt h) ∧ ∀ (D : Nat → Prop) (c u : Nat) (h0 : XH), Gr D c u h0 h → (b < xt h0 → D b) → Gr D (c + 1) (u + (2 * m + 40)) h0 h1) := by
  obtain ⟨⟨q1, q2, q3, q4⟩, ⟨q5, q6, q7⟩, ⟨q8, q9⟩, q10, q11⟩ := q
  have hA : xn h A < 4000 := by omega
  unfold FJ5_ensureCapacityInternal_d00df
  refine xo_g q1 (xo_n q2 (xo_g q5 (xo_g q1 (xo_lt (xo_jn ?_)))))
  rw [q3, ofNat_nI, sr0 _ hA]
  by_cases hc : m ≤ xn h A
  · refine xo_t (show nI m - nI (xn h A) ≤ 0 from sub_le0 (by omega) hc) (xo_v ⟨A, ⟨⟨q1, q2, q3, q4⟩, ⟨q5, hc, by omega⟩, ⟨q8, q9⟩, fun i hi => (q10 i hi).1, q11⟩, Or.inl rfl, fun D c u h0 g _ => Gr_more g (by omega) (by omega)⟩)
  · have lt : xn h A < m := by omega
    refine xo_f (show ¬ nI m - nI (xn h A) ≤ 0 from sub_gt0 (by omega) lt) (xo_g q1 (xo_n q2 (xo_g q1 ?_)))
    obtain ⟨N, hN, n1, n2⟩ : ∃ N, FJ5_newCapacity_0f7a4 E b (nI m) h = xv (nI N) h ∧ m ≤ N ∧ N ≤ 2 * m + 40 := by
      have en : ∃ N, FJ8_newLength_cabcc E (nI (xn h A)) (nI m - nI (xn h A)) (nI (xn h A) + 2) h = xv (nI N) h ∧ m ≤ N ∧ N ≤ 2 * m + 40 := by
        have e1 : nI m - nI (xn h A) = nI (m - xn h A) := nI_sub (by omega)
        have e2 : nI (xn h A) + 2 = nI (xn h A + 2) := nI_a _ 2
        rw [e1, e2]
        unfold FJ8_newLength_cabcc
        by_cases c2 : m - xn h A < xn h A + 2
        · refine ⟨xn h A + (xn h A + 2), ?_, by omega, by omega⟩
          rw [show FJ9_max_7cf53 E (nI (m - xn h A)) (nI (xn h A + 2)) h = xv (nI (xn h A + 2)) h from if_pos (by rw [nI_ltP (by omega) (by omega)]; exact c2), xb_v, xlt_d, nI_a, xjn_d, if_neg (by rw [li0, nI_leP (by omega) (by omega)]; omega), if_neg (by rw [show (2147483639 : Int32) = nI 2147483639 from rfl, nI_ltP (by omega) (by omega)]; omega)]
        · refine ⟨xn h A + (m - xn h A), ?_, by omega, by omega⟩
          rw [show FJ9_max_7cf53 E (nI (m - xn h A)) (nI (xn h A + 2)) h = xv (nI (m - xn h A)) h from if_neg (by rw [nI_ltP (by omega) (by omega)]; exact c2), xb_v, xlt_d, nI_a, xjn_d, if_neg (by rw [li0, nI_leP (by omega) (by omega)]; omega), if_neg (by rw [show (2147483639 : Int32) = nI 2147483639 from rfl, nI_ltP (by omega) (by omega)]; omega)]
      obtain ⟨N, e1, e2, e3⟩ := en
      refine ⟨N, ?_, e2, e3⟩
      unfold FJ5_newCapacity_0f7a4
      rw [xg_t q1, xnn_e q2, xg_t q5, xlt_d, xg_t q1, xlt_d, xlt_d, xg_t q1, q3, sl0 m (by omega), show (2 : Int32) <<< ((0 : Int32) &&& 31) = 2 from by decide, ofNat_nI, e1, xb_v, if_neg (by rw [show (2147483647 : Int32) = nI 2147483647 from rfl, nI_eqP (by omega) (by omega)]; omega), xg_t q1, q3, sr0 N (by omega)]
    refine xo_eb hN (xo_g q1 ?_)
    rw [q3, sl0 N (by omega)]
    have h2d : ∃ h2, h2 = ya h 11 N := ⟨_, rfl⟩
    obtain ⟨h2, e2⟩ := h2d
    have nA : ¬ A = xt h := by omega
    have k2A : xk h2 A = 11 := by rw [e2, xk_ya, if_neg nA]; exact q5
    have k2n : xk h2 (xt h) = 11 := by rw [e2, xk_ya, if_pos rfl]
    have n2A : xn h2 A = xn h A := by rw [e2, xn_ya, if_neg nA]
    have n2n : xn h2 (xt h) = N := by rw [e2, xn_ya, if_pos rfl]
    have i2A : ∀ i, xi h2 A i = xi h A i := fun i => by rw [e2, xi_ya, if_neg nA]
    have i2n : ∀ i, xi h2 (xt h) i = 0 := fun i => by rw [e2, xi_ya, if_pos rfl]
    have hc7 : xo (FJ7_copyOf_9075b E A (nI N) h) (fun w h5 => w = xt h ∧ h5 = yc h2 (xt h) (va_cpy (xi h2 A) (xi h2 (xt h)) 0 0 (xn h A))) := by
      unfold FJ7_copyOf_9075b
      refine xo_g q5 (xo_f (by rw [ofNat_nI, nI_eqP (by omega) (by omega)]; omega) (xo_g ⟨nI_0le' (by omega), by rw [xz_nI (by omega)]; omega⟩ ?_))
      rw [xz_nI (by omega)]
      unfold xal
      rw [← e2]
      refine xo_g k2A ?_
      rw [n2A, ofNat_nI]
      refine xo_eb (show FJ9_min_7cf53 E (nI (xn h A)) (nI N) h2 = xv (nI (xn h A)) h2 from if_neg (by rw [nI_ltP (by omega) (by omega)]; omega)) ?_
      rw [show (0 : Int32).toNatClampNeg = 0 from rfl, xz_nI (by omega)]
      refine xo_g ⟨⟨k2A, k2n⟩, ⟨by decide, by decide, nI_0le' (by omega)⟩, by rw [n2A]; omega, by rw [n2n]; omega, fun i hi => by rw [Nat.zero_add, i2A]; exact q11 i hi⟩ (xo_v ⟨rfl, rfl⟩)
    refine xo_b hc7 (fun w h5 z => ?_)
    obtain ⟨rfl, e5⟩ := z
    have nb : ¬ b = xt h := by omega
    have k5 : ∀ a, xk h5 a = xk h2 a := fun a => by rw [e5, xk_yc]
    have k5b : xk h5 b = 24 := by rw [k5, e2, xk_ya, if_neg nb]; exact q1
    have i5b : ∀ j, xi h5 b j = xi h b j := fun j => by rw [e5, xi_yc, if_neg nb, e2, xi_ya, if_neg nb]
    have i5n : ∀ i, xi h5 (xt h) i = if i < xn h A then xi h A i else 0 := fun i => by
      rw [e5, xi_yc, if_pos rfl]
      unfold va_cpy
      by_cases ci : i < xn h A
      · rw [if_pos (by omega), if_pos ci, i2A]; congr 1; omega
      · rw [if_neg (by omega), if_neg ci, i2n]
    have t5 : xt h5 = xt h + 1 := by rw [e5, e2]; rfl
    refine xo_g k5b (xo_v ⟨xt h, ⟨⟨k5b, by rw [xr_yr, if_pos ⟨rfl, rfl⟩], by rw [xi_yr, i5b]; exact q3, by rw [xi_yr, i5b]; exact q4⟩, ⟨by rw [xk_yr, k5]; exact k2n, ?_, ?_⟩, ⟨by rw [xt_yr, t5]; omega, by rw [xt_yr, t5]; omega⟩, fun i hi => ?_, fun i hi => ?_⟩, Or.inr rfl, fun D c u h0 g hd => ?_⟩)
    · rw [xn_yr, e5, xn_yc, n2n]; exact n1
    · rw [xn_yr, e5, xn_yc, n2n]; exact n2
    · rw [xi_yr, i5n, if_pos (by omega)]; exact (q10 i hi).1
    · rw [xi_yr, i5n]
      split
      · exact q11 i ‹_›
      · decide
    · have g1 := Gr_ya g 11 N
      rw [← e2] at g1
      have y : yw 11 N = N := rfl
      rw [y] at g1
      have t0 := g.t
      have g2 := Gr_yc (a := xt h) (f := va_cpy (xi h2 A) (xi h2 (xt h)) 0 0 (xn h A)) g1 (by rw [e2]; exact Nat.lt_succ_self _) (fun z => by omega)
      rw [← e5] at g2
      exact Gr_more (Gr_yr g2 hd) (Nat.le_refl _) (by omega)
/-- the heap h, grown out of h0, with the builder b holding l -/
def AP (D : Nat → Prop) (c u : Nat) (h0 : XH) (b : Nat) (h : XH) (l : List Nat) : Prop := ∃ A, SB h b A l ∧ ((b < xt h0 → D b) ∧ (A < xt h0 → D A)) ∧ Gr D c u h0 h
theorem AP.more {D : Nat → Prop} {c u c' u' : Nat} {h0 : XH} (p : AP D c u h0 b h l) (hc : c ≤ c') (hu : u ≤ u') : AP D c' u' h0 b h l := by
  obtain ⟨A, a1, a2, a3⟩ := p
  exact ⟨A, a1, a2, Gr_more a3 hc hu⟩
/-- letters put behind: room made, letters written, counted -/
theorem put_o {α : Type} {D : Nat → Prop} {c u : Nat} {h0 : XH} (p : AP D c u h0 b h l) {m : List Nat} (hm : ∀ i, i < m.length → m.getD i 0 < 128) (hl : l.length + m.length ≤ 900) {f : XH → XP α} {Q : α → XH → Prop}
    (K : ∀ h1 A1, (xk h1 b = 24 ∧ xr h1 b 0 = some A1 ∧ xi h1 b 1 = 0 ∧ xi h1 b 3 = nI l.length) → (xk h1 A1 = 11 ∧ l.length + m.length ≤ xn h1 A1) → (∀ h2, (∃ B : Nat → Prop, iw B h1 h2 ∧ ∀ a, B a → a = b ∨ a = A1) → xi h2 b 1 = 0 → xi h2 b 3 = nI (l.length + m.length) → (∀ i, xi h2 A1 i = if l.length ≤ i ∧ i < l.length + m.length then nI (m.getD (i - l.length) 0) else xi h1 A1 i) → AP D (c + 1) (u + 1840) h0 b h2 (l ++ m)) → xo (f h1) Q) : xo (xb (FJ5_ensureCapacityInternal_d00df E b (nI (l.length + m.length)) h) fun _ h1 => f h1) Q := by
  obtain ⟨A, a1, ⟨a2, a3⟩, a4⟩ := p
  refine xo_b (ens_o a1 (by omega) (by omega)) (fun _ h1 z => ?_)
  obtain ⟨A1, ⟨z1, ⟨z2, z3, z4⟩, ⟨z5, z6⟩, z7, z8⟩, z9, z10⟩ := z
  have t0 := a4.t
  have dA : A1 < xt h0 → D A1 := fun y => by
    rcases z9 with z9 | z9
    · rw [z9] at y ⊢; exact a3 y
    · omega
  have nb : ¬ b = A1 := fun y => by have := z1.1; rw [y] at this; omega
  refine K h1 A1 z1 ⟨z2, z3⟩ (fun h2 y y1 y3 yA => ?_)
  obtain ⟨B, i, hB⟩ := y
  have ll : (l ++ m).length = l.length + m.length := List.length_append
  refine ⟨A1, ⟨⟨(i.k _).trans z1.1, (i.r _ _).trans z1.2.1, y1, by rw [ll]; exact y3⟩, ⟨(i.k _).trans z2, by rw [i.n, ll]; exact z3, by rw [i.n, ll]; exact z4⟩, ⟨by rw [i.t]; exact z5, by rw [i.t]; exact z6⟩, fun j hj => ?_, fun j hj => ?_⟩, ⟨a2, dA⟩, ?_⟩
  · rw [ll] at hj
    rw [yA, gD_app]
    by_cases c1 : j < l.length
    · rw [if_neg (by omega), if_pos c1]
      exact ⟨z7 j c1, (a1.2.2.2.1 j c1).2⟩
    · rw [if_pos (by omega), if_neg c1]
      exact ⟨rfl, hm _ (by omega)⟩
  · rw [i.n] at hj
    rw [yA]
    split
    · exact by128 _ (hm _ (by omega))
    · exact z8 j hj
  · refine Gr_more (Gr_iw (z10 D c u h0 a4 a2) i (fun a q => ?_)) (Nat.le_refl _) (by omega)
    rcases hB a q with rfl | rfl
    · exact ⟨z5, a2⟩
    · exact ⟨z6, dA⟩
theorem app_char {D : Nat → Prop} {c u : Nat} {h0 : XH} (p : AP D c u h0 b h l) {x : Nat} (hx : x < 128) (hl : l.length + 1 ≤ 900) : xo (FJ4_append_cf468 E b (nI x) h) (fun v h1 => v = b ∧ AP D (c + 1) (u + 1840) h0 b h1 (l ++ [x])) := by
  have pp := p
  obtain ⟨A, a1, -⟩ := pp
  unfold FJ4_append_cf468
  refine xo_g a1.k (xo_b (Q := fun v h1 => v = b ∧ AP D (c + 1) (u + 1840) h0 b h1 (l ++ [x])) ?_ (fun v h1 z => by obtain ⟨rfl, z⟩ := z; exact xo_v ⟨rfl, z⟩))
  unfold FJ5_append_3fe6f
  refine xo_g a1.k (xo_g a1.k ?_)
  rw [a1.i3, nI_s]
  refine put_o p (m := [x]) (fun i hi => ?_) hl (fun h1 A1 z1 z2 K => ?_)
  · have : i = 0 := by simp only [List.length_singleton] at hi; omega
    subst this; exact hx
  · have lat : FJ5_isLatin1_aae02 E b h1 = xv 1 h1 := by
      unfold FJ5_isLatin1_aae02
      rw [xjn_d, xjn_d, if_neg (by decide), xg_t z1.1, if_pos z1.2.2.1]
      exact xg_t (Or.inr rfl)
    have nb : ¬ A1 = b := fun y => by have := z1.1; have := z2.1; rw [y] at this; omega
    refine xo_g z1.1 (xo_eb lat (xo_jn (xo_f (by decide) (xo_eb (show FJ1_canEncode_fc78d E (nI x) h1 = xv 1 h1 from by unfold FJ1_canEncode_fc78d; rw [xjn_d, if_neg (nar128 x hx).2]; exact xg_t (Or.inr rfl)) (xo_f (by decide) (xo_g z1.1 (xo_n z1.2.1 (xo_g z1.1 (xo_g z1.1 (xo_lt ?_))))))))))
    rw [z1.2.2.2, nI_s, (nar128 x hx).1]
    have z3 : l.length < xn h1 A1 := by have := z2.2; simp only [List.length_singleton] at this; omega
    refine xo_g ⟨z2.1, xin_nI' z3 (by omega)⟩ (xo_lt (xo_v ⟨rfl, K _ ⟨fun a => a = b ∨ a = A1, (iw_yi h1 b 3 _ (Or.inl rfl)).yi A1 _ _ (Or.inr rfl), fun a q => q⟩ ?_ ?_ (fun i => ?_)⟩))
    · rw [xi_yi2 _ _ (Or.inl (fun y => nb y.symm)), xi_yi2 _ _ (Or.inr (by decide))]; exact z1.2.2.1
    · rw [xi_yi2 _ _ (Or.inl (fun y => nb y.symm)), xi_yi1]; rfl
    · rw [xz_nI (by omega)]
      by_cases ci : i = l.length
      · subst ci
        rw [xi_yi1, if_pos ⟨Nat.le_refl _, by simp⟩, Nat.sub_self]; rfl
      · rw [xi_yi2 _ _ (Or.inr ci), xi_yi2 _ _ (Or.inl nb), if_neg (by simp only [List.length_singleton]; omega)]
theorem app_str {D : Nat → Prop} {c u : Nat} {h0 : XH} (p : AP D c u h0 b h l) {i : Nat} (hi : i < nJS) (hl : l.length + (wJS i).length ≤ 900) : xo (FJ4_append_15ec4 E b i h) (fun v h1 => v = b ∧ AP D (c + 1) (u + 1840) h0 b h1 (l ++ wJS i)) := by
  have pp := p
  obtain ⟨A, a1, -⟩ := pp
  obtain ⟨w1, w2, w3⟩ := wJS_all i hi
  unfold FJ4_append_15ec4
  refine xo_g a1.k (xo_b (Q := fun v h1 => v = b ∧ AP D (c + 1) (u + 1840) h0 b h1 (l ++ wJS i)) ?_ (fun v h1 z => by obtain ⟨rfl, z⟩ := z; exact xo_v ⟨rfl, z⟩))
  unfold FJ5_append_cf1ce
  refine xo_g hi (xo_eb (show FJ0_length i h = xv (nI (wJS i).length) h from by unfold FJ0_length; rw [xg_t hi, w1]; rfl) (xo_g a1.k (xo_g a1.k ?_)))
  rw [a1.i3, nI_a]
  refine put_o p (m := wJS i) (fun k hk => (w3 k hk).2.1) hl (fun h1 A1 z1 z2 K => ?_)
  have nb : ¬ A1 = b := fun y => by have := z1.1; have := z2.1; rw [y] at this; omega
  have infl : FJ5_inflateIfNeededFor_a7421 E b i h1 = xv () h1 := by
    unfold FJ5_inflateIfNeededFor_a7421
    rw [xjn_d, if_neg (by decide), xg_t z1.1, xg_t hi, show FJ0_coder i h1 = xv 0 h1 from xg_t hi, xb_v, if_pos z1.2.2.1]
  refine xo_g z1.1 (xo_g z1.1 ?_)
  rw [z1.2.2.2]
  have gb : FJ0_getBytes_840e7 E i A1 (nI l.length) 0 h1 = xv () (yc h1 A1 (va_cpy (fun j => (bytJS.getD i []).getD j 0) (xi h1 A1) 0 l.length (wJS i).length)) := by
    unfold FJ0_getBytes_840e7
    rw [xg_t hi, show FJ0_coder i h1 = xv 0 h1 from xg_t hi, xb_v, if_pos rfl, xg_t hi, xg_t hi, xg_t hi, w1, ofNat_nI, sl0 l.length (by omega), xz_nI (by omega), xz_nI (by omega), show (0 : Int32).toNatClampNeg = 0 from rfl]
    rw [xg_t ⟨⟨hi, z2.1⟩, ⟨by decide, nI_0le' (by omega), nI_0le' (by omega)⟩, by omega, z2.2, fun k hk => by rw [Nat.zero_add]; exact (w3 k hk).2.2⟩]
    rfl
  refine xo_eb (show FJ5_putStringAt_47b60 E b (nI l.length) i h1 = xv () (yc h1 A1 (va_cpy (fun j => (bytJS.getD i []).getD j 0) (xi h1 A1) 0 l.length (wJS i).length)) from by
    unfold FJ5_putStringAt_47b60
    rw [xg_t z1.1, infl, xb_v, xg_t z1.1, xnn_e z1.2.1, xg_t z1.1, xg_t hi, z1.2.2.1, gb, xb_v]) ?_
  refine xo_g z1.1 (xo_g z1.1 ?_)
  rw [xi_yc, if_neg (fun y => nb y.symm), z1.2.2.2, nI_a]
  refine xo_lt (xo_v ⟨rfl, K _ ⟨fun a => a = b ∨ a = A1, (iw_yc h1 A1 _ (Or.inr rfl)).yi b 3 _ (Or.inl rfl), fun a q => q⟩ ?_ ?_ (fun k => ?_)⟩)
  · rw [xi_yi2 _ _ (Or.inr (by decide)), xi_yc, if_neg (fun y => nb y.symm)]; exact z1.2.2.1
  · rw [xi_yi1]
  · rw [xi_yi2 _ _ (Or.inl nb), xi_yc, if_pos rfl]
    unfold va_cpy
    by_cases ck : l.length ≤ k ∧ k < l.length + (wJS i).length
    · rw [if_pos ck, if_pos ck, Nat.zero_add]
      exact (w3 _ (by omega)).1
    · rw [if_neg ck, if_neg ck]
theorem ssz {v : Nat} (hv : v < 10) : FJ6_stringSize_0f7a4 E (nI v) h = xv 1 h := by
  obtain ⟨d1, d2, d3, d4, d5, d6, d7⟩ := dgt10 v hv
  unfold FJ6_stringSize_0f7a4
  rw [xjn_d, if_neg d2, xlt_d]
  refine xlp_all (fun _ => ((-10 : Int32), (1 : Int32))) (fun _ => h) 0 (by omega) (fun i hi => by omega) (fun ag => ?_)
  rw [if_neg (by decide), if_neg d7]
  rfl
theorem app_int {D : Nat → Prop} {c u : Nat} {h0 : XH} (p : AP D c u h0 b h l) {v : Nat} (hv : v < 10) (hl : l.length + 1 ≤ 900) : xo (FJ4_append_bf812 E b (nI v) h) (fun w h1 => w = b ∧ AP D (c + 1) (u + 1840) h0 b h1 (l ++ [48 + v])) := by
  have pp := p
  obtain ⟨A, a1, -⟩ := pp
  obtain ⟨d1, d2, d3, d4, d5, d6, d7⟩ := dgt10 v hv
  unfold FJ4_append_bf812
  refine xo_g a1.k (xo_b (Q := fun v' h1 => v' = b ∧ AP D (c + 1) (u + 1840) h0 b h1 (l ++ [48 + v])) ?_ (fun v h1 z => by obtain ⟨rfl, z⟩ := z; exact xo_v ⟨rfl, z⟩))
  unfold FJ5_append_c97b9
  refine xo_g a1.k (xo_lt (xo_eb (ssz hv) (xo_lt (xo_g a1.k ?_))))
  rw [a1.i3, nI_s]
  refine put_o p (m := [48 + v]) (fun i hi => ?_) hl (fun h1 A1 z1 z2 K => ?_)
  · have : i = 0 := by simp only [List.length_singleton] at hi; omega
    subst this; show 48 + v < 128; omega
  · have lat : FJ5_isLatin1_aae02 E b h1 = xv 1 h1 := by
      unfold FJ5_isLatin1_aae02
      rw [xjn_d, xjn_d, if_neg (by decide), xg_t z1.1, if_pos z1.2.2.1]
      exact xg_t (Or.inr rfl)
    have nb : ¬ A1 = b := fun y => by have := z1.1; have := z2.1; rw [y] at this; omega
    have z3 : l.length < xn h1 A1 := by have := z2.2; simp only [List.length_singleton] at this; omega
    have gc : FJ6_getChars_ba4f3 E (nI v) (nI (l.length + 1)) A1 h1 = xv (nI l.length) (yi h1 A1 l.length (nI (48 + v))) := by
      have e1 : nI (l.length + 1) + (-1) = nI l.length := by rw [← nI_s]; exact add_m1 _
      unfold FJ6_getChars_ba4f3
      rw [xjn_d, if_pos d3]
      dsimp only
      rw [xjn_d, if_pos rfl, xlt_d]
      dsimp only
      rw [if_pos d4, e1, xg_t d6, xg_t ⟨z2.1, xin_nI' z3 (by omega)⟩, xlt_d, if_pos d5, if_pos rfl, d1, xz_nI (by omega)]
    refine xo_g z1.1 (xo_eb lat (xo_f (by decide) (xo_g z1.1 (xo_n z1.2.1 (xo_eb gc (xo_g z1.1 (xo_lt (xo_v ⟨rfl, K _ ⟨fun a => a = b ∨ a = A1, (iw_yi h1 A1 _ _ (Or.inr rfl)).yi b 3 _ (Or.inl rfl), fun a q => q⟩ ?_ ?_ (fun i => ?_)⟩))))))))
    · rw [xi_yi2 _ _ (Or.inr (by decide)), xi_yi2 _ _ (Or.inl (fun y => nb y.symm))]; exact z1.2.2.1
    · rw [xi_yi1]; rfl
    · rw [xi_yi2 _ _ (Or.inl nb)]
      by_cases ci : i = l.length
      · subst ci
        rw [xi_yi1, if_pos ⟨Nat.le_refl _, by simp⟩, Nat.sub_self]; rfl
      · rw [xi_yi2 _ _ (Or.inr ci), if_neg (by simp only [List.length_singleton]; omega)]
theorem chr_v (q : SB h b A l) {i : Nat} (hi : i < l.length) (hl : l.length ≤ 900) : FJ4_charAt_5068e E b (nI i) h = xv (nI (l.getD i 0)) h := by
  have hn : xn h A < 4000 := by have := q.2.1.2.2; omega
  obtain ⟨v1, v2⟩ := q.2.2.2.1 i hi
  have c128 := ch128 _ v2
  have hin : i < xn h A := Nat.lt_of_lt_of_le hi q.2.1.2.1
  have e5 : FJ5_charAt_5068e E b (nI i) h = xv (nI (l.getD i 0)) h := by
    unfold FJ5_charAt_5068e
    rw [xg_t q.k, q.i1, xlt_d, xg_t q.k, xnn_e q.r, xg_t q.k, xg_t q.ka, q.i3, ofNat_nI, sr0 _ hn]
    rw [show FJ9_min_7cf53 E (nI l.length) (nI (xn h A)) h = xv (nI l.length) h from if_neg (by rw [nI_ltP (by omega) (by omega)]; have := q.2.1.2.1; omega), xb_v]
    rw [show FJ0_checkIndex (nI i) (nI l.length) h = xv () h from xg_t ⟨nI_0le' (by omega), by rw [nI_ltP (by omega) (by omega)]; exact hi⟩, xb_v, if_pos rfl, xg_t ⟨q.ka, xin_nI' hin (by omega)⟩, xz_nI (by omega), v1, c128.1, xg_t c128.2]
  unfold FJ4_charAt_5068e
  rw [xg_t q.k, e5, xb_v, xg_t c128.2]
end SBS
