/-! The class takes a state again; one change more. -/
set_option linter.unusedVariables false
section TAKE
variable {E : XG} {h : XH} {W R : Nat} {S : SD} {T T' : ST}
/-- S alone -/
theorem CS_ts {h' : XH} (w : WS S) (M : CS h W S) (i : iw (rTS W) h h') (hN : ∀ m, m < 6 → xi h' (W + 32 + 8 * m) 0 = nI m) : CS h' W S := by
  obtain ⟨⟨w1, w2, w3⟩, w4, w5, w6⟩ := w
  obtain ⟨⟨m1, m2, m3⟩, ⟨m4, m5, m6⟩, m7, m8, m9⟩ := M
  have nb : ∀ a, W ≤ a → a < W + 32 → a ≠ W + 13 → ¬ rTS W a := fun a q1 q2 q4 q => by
    unfold rTS at q
    omega
  refine ⟨⟨WL_iw m1 i, fun g hg => ?_, hN⟩, ⟨?_, ?_, ?_⟩, fun g hg => ⟨?_, fun a b ha hb => ?_, fun a ha => ?_⟩, fun m hm => ⟨by rw [i.r]; exact (m8 m hm).1, by rw [i.r]; exact (m8 m hm).2⟩, fun a ha => ⟨by rw [i.r]; exact (m9 a ha).1, by rw [i.r]; exact (m9 a ha).2⟩⟩
  · rw [i.i _ (nb _ (by omega) (by omega) (by omega))]; exact m2 g hg
  · rw [i.i _ (nb _ (by omega) (by omega) (by omega))]; exact m4
  · rw [i.i _ (nb _ (by omega) (by omega) (by omega))]; exact m5
  · rw [i.i _ (nb _ (by omega) (by omega) (by omega))]; exact m6
  · rw [i.i _ (nb _ (by omega) (by omega) (by omega))]; exact (m7 g hg).1
  · rw [i.i _ (nb _ (by omega) (by omega) (by omega))]; exact (m7 g hg).2.1 a b ha hb
  · rw [i.i _ (nb _ (by omega) (by omega) (by omega))]; exact (m7 g hg).2.2 a ha
theorem FX7_takeState_o (M : CI h W S T) (hT : WT S T') (c : CR h R S T') (hk : xk h R = 12) (hn : xn h R = 569) (hR : R < W ∨ W + 104 ≤ R) : xo (FX7_takeState E W R h) (fun _ h' => iw (rTS W) h h' ∧ CI h' W S T') := by
  have hw := M.wl
  have hRn : ¬ rTS W R := fun q => by unfold rTS at q; omega
  have rm : ∀ m, m < 6 → rTS W (W + 32 + 8 * m) ∧ rTS W (W + 32 + 8 * m + 1) ∧ rTS W (W + 32 + 8 * m + 2) := fun m hm => by unfold rTS; omega
  have ra : ∀ a, a < 8 → rTS W (W + 80 + 3 * a + 1) ∧ rTS W (W + 80 + 3 * a + 2) := fun a ha => by unfold rTS; omega
  unfold FX7_takeState
  refine xo_g hk ?_
  rw [hn]
  refine xo_t (by rfl) ?_
  refine xlp_inv (Po := fun m => xo m _) (fun i s h' => s = (nI (73 * i), nI i) ∧ iw (rTS W) h h' ∧ (∀ m, m < 6 → xi h' (W + 32 + 8 * m) 0 = nI m) ∧ ∀ m, m < i → (∀ j, j < 8 → xi h' (W + 32 + 8 * m + 1) j = xi h R (73 * m + j)) ∧ (∀ j, j < 64 → xi h' (W + 32 + 8 * m + 2) j = xi h R (73 * m + 8 + j)) ∧ xi h' (W + 32 + 8 * m) 7 = xi h R (73 * m + 72)) 6 (by omega) (fun i s h1 ag hi I again => ?_) ⟨rfl, iw.refl _ _, M.2.1.1.2.2, fun m hm => absurd hm (Nat.not_lt_zero _)⟩
  obtain ⟨rfl, i1, f1, r1⟩ := I
  have w1 := WL_iw hw i1
  have k1 : xk h1 R = 12 := by rw [i1.k, hk]
  have n1 : xn h1 R = 569 := by rw [i1.n, hn]
  by_cases e : i = 6
  · subst e
    refine xo_t (by decide) ?_
    refine xlp_inv (Po := fun m => xo m _) (fun i s h' => s = (nI (438 + 16 * i), nI i) ∧ iw (rTS W) h h' ∧ (∀ a k, a < W + 80 → xi h' a k = xi h1 a k) ∧ ∀ a, a < i → (∀ j, j < 8 → xi h' (W + 80 + 3 * a + 1) j = xi h R (438 + 16 * a + j)) ∧ ∀ j, j < 8 → xi h' (W + 80 + 3 * a + 2) j = xi h R (438 + 16 * a + 8 + j)) 8 (by omega) (fun i s h2 ag hi I again => ?_) ⟨rfl, i1, fun _ _ _ => rfl, fun a ha => absurd ha (Nat.not_lt_zero _)⟩
    obtain ⟨rfl, i2, f2, r2⟩ := I
    have w2 := WL_iw hw i2
    have k2 : xk h2 R = 12 := by rw [i2.k, hk]
    have n2 : xn h2 R = 569 := by rw [i2.n, hn]
    by_cases e : i = 8
    · subst e
      refine xo_t (by decide) (xo_g w2.1 (xo_n w2.r13 ?_))
      refine xo_cpy 566 0 3 569 3 rfl rfl rfl k2 w2.k13 n2 w2.n13 (by omega) (by omega) (by omega) (by omega) (fun h3 i3 c3 d3 => ?_)
      have i4 : iw (rTS W) h h3 := i2.trans i3 (fun _ q => q) (fun a q => Or.inl q)
      obtain ⟨⟨W1, W2⟩, C, T1, T2, T3, T4, T5, T6⟩ := M
      obtain ⟨c1, c2, c4, c5, c6, c7⟩ := c
      have W1' := W1
      obtain ⟨⟨v1, v2, v3⟩, v4, v5, v6⟩ := W1'
      have b8 : ∀ m, m < snm S → nuS S m ≤ 8 ∧ nlS2 S m ≤ 8 := fun m hm => ⟨(v4 _ (v5 m hm).1).1.2, (v4 _ (v5 m hm).2).1.2⟩
      refine xo_v ⟨i4, ⟨W1, hT⟩, CS_ts W1 C i4 (fun m hm => ?_), fun m a q1 q2 => ?_, fun m g a q1 q2 q3 => ?_, fun m q1 => ?_, fun a x q1 q2 => ?_, fun a x q1 q2 => ?_, fun x q1 => ?_⟩
      · rw [i3.i _ (by omega), f2 _ _ (by omega)]; exact f1 m hm
      · have := b8 m q1
        rw [i3.i _ (by omega), f2 _ _ (by omega), (r1 m (by omega)).1 a (by omega)]
        exact c1 m a q1 q2
      · have := b8 m q1
        rw [i3.i _ (by omega), f2 _ _ (by omega), (r1 m (by omega)).2.1 _ (by omega)]
        exact c2 m g a q1 q2 q3
      · rw [i3.i _ (by omega), f2 _ _ (by omega), (r1 m (by omega)).2.2]
        exact c4 m q1
      · have := b8 _ (v6 a q1).1
        rw [i3.i _ (by omega), (r2 a (by omega)).1 x (by omega)]
        exact c5 a x q1 q2
      · have := b8 _ (v6 a q1).1
        rw [i3.i _ (by omega), (r2 a (by omega)).2 x (by omega)]
        exact c6 a x q1 q2
      · have := c3 x q1
        rw [Nat.zero_add] at this
        rw [this, i2.i _ hRn]
        exact c7 x q1
    · have hlt : i < 8 := by omega
      have a2 := (w2.2.2.2.2 i hlt).2
      refine xo_f (by rw [li8, nI_leP (by omega) (by omega)]; omega) (xo_g w2.1 (xo_n w2.r12 (xo_g ⟨w2.k12, by rw [w2.n12]; exact xin_nI hlt (by omega)⟩ (xo_n (w2.a hlt) (xo_g a2.1 (xo_n a2.2.1.1 ?_))))))
      refine xo_cpy (438 + 16 * i) 0 8 569 8 rfl rfl rfl k2 a2.2.1.2.1 n2 a2.2.1.2.2 (by omega) (by omega) (by omega) (by omega) (fun h3 i3 c3 d3 => ?_)
      have i4 : iw (rTS W) h h3 := i2.trans i3 (fun _ q => q) (fun a q => by rw [q]; exact (ra i hlt).1)
      have w3 := WL_iw hw i4
      have a3 := (w3.2.2.2.2 i hlt).2
      refine xo_g w3.1 (xo_n w3.r12 (xo_g ⟨w3.k12, by rw [w3.n12]; exact xin_nI hlt (by omega)⟩ (xo_n (w3.a hlt) (xo_g a3.1 (xo_n a3.2.2.1 ?_)))))
      refine xo_cpy (438 + 16 * i + 8) 0 8 569 8 (by rw [li8, nI_a]) rfl rfl (by rw [i4.k, hk]) a3.2.2.2.1 (by rw [i4.n, hn]) a3.2.2.2.2 (by omega) (by omega) (by omega) (by omega) (fun h5 i5 c5 d5 => ?_)
      have i6 : iw (rTS W) h h5 := i4.trans i5 (fun _ q => q) (fun a q => by rw [q]; exact (ra i hlt).2)
      refine again hlt _ _ ⟨?_, i6, fun a k hk => ?_, fun a ha => ⟨fun j hj => ?_, fun j hj => ?_⟩⟩
      · dsimp only
        rw [nI_s, show (16 : Int32) = nI 16 from rfl, nI_a, show 438 + 16 * i + 16 = 438 + 16 * (i + 1) by omega]
      · rw [i5.i _ (by omega), i3.i _ (by omega)]; exact f2 a k hk
      · by_cases ea : a = i
        · subst ea
          have := c3 j hj
          rw [Nat.zero_add] at this
          rw [i5.i _ (by omega), this, i2.i _ hRn]
        · rw [i5.i _ (by omega), i3.i _ (by omega)]; exact (r2 a (by omega)).1 j hj
      · by_cases ea : a = i
        · subst ea
          have := c5 j hj
          rw [Nat.zero_add] at this
          rw [this, i4.i _ hRn]
        · rw [i5.i _ (by omega), i3.i _ (by omega)]; exact (r2 a (by omega)).2 j hj
  · have hlt : i < 6 := by omega
    have a1 := (w1.2.2.2.1 i hlt).2.w
    refine xo_f (by rw [li6, nI_leP (by omega) (by omega)]; omega) (xo_g w1.1 (xo_n w1.r11 (xo_g ⟨w1.k11, by rw [w1.n11]; exact xin_nI hlt (by omega)⟩ (xo_n (w1.m hlt) (xo_g a1.1 (xo_n a1.2.1.1 ?_))))))
    refine xo_cpy (73 * i) 0 8 569 8 rfl rfl rfl k1 a1.2.1.2.1 n1 a1.2.1.2.2 (by omega) (by omega) (by omega) (by omega) (fun h3 i3 c3 d3 => ?_)
    have i4 : iw (rTS W) h h3 := i1.trans i3 (fun _ q => q) (fun a q => by rw [q]; exact (rm i hlt).2.1)
    have w3 := WL_iw hw i4
    have a3 := (w3.2.2.2.1 i hlt).2.w
    refine xo_g w3.1 (xo_n w3.r11 (xo_g ⟨w3.k11, by rw [w3.n11]; exact xin_nI hlt (by omega)⟩ (xo_n (w3.m hlt) (xo_g a3.1 (xo_n a3.2.2.1 ?_)))))
    refine xo_cpy (73 * i + 8) 0 64 569 64 (by rw [li8, nI_a]) rfl rfl (by rw [i4.k, hk]) a3.2.2.2.1 (by rw [i4.n, hn]) a3.2.2.2.2 (by omega) (by omega) (by omega) (by omega) (fun h5 i5 c5 d5 => ?_)
    have i6 : iw (rTS W) h h5 := i4.trans i5 (fun _ q => q) (fun a q => by rw [q]; exact (rm i hlt).2.2)
    have w5 := WL_iw hw i6
    have a5 := (w5.2.2.2.1 i hlt).2.w
    dsimp only
    rw [k73 i (by omega)]
    refine xo_g w5.1 (xo_n w5.r11 (xo_g ⟨w5.k11, by rw [w5.n11]; exact xin_nI hlt (by omega)⟩ (xo_n (w5.m hlt) (xo_g ⟨by rw [i6.k, hk], by rw [i6.n, hn]; exact xin_nI (by omega) (by omega)⟩ (xo_g a5.1 (xo_lt ?_))))))
    rw [xz_nI (by omega)]
    refine again hlt _ _ ⟨?_, i6.yi _ _ _ (rm i hlt).1, fun m hm => ?_, fun m hm => ⟨fun j hj => ?_, fun j hj => ?_, ?_⟩⟩
    · rw [nI_s, show (73 : Int32) = nI 73 from rfl, nI_a, show 73 * i + 73 = 73 * (i + 1) by omega]
    · rw [xi_yi2 _ _ (Or.inr (by omega)), i5.i _ (by omega), i3.i _ (by omega)]; exact f1 m hm
    · by_cases ea : m = i
      · subst ea
        have := c3 j hj
        rw [Nat.zero_add] at this
        rw [xi_yi2 _ _ (Or.inl (by omega)), i5.i _ (by omega), this, i1.i _ hRn]
      · rw [xi_yi2 _ _ (Or.inl (by omega)), i5.i _ (by omega), i3.i _ (by omega)]; exact (r1 m (by omega)).1 j hj
    · by_cases ea : m = i
      · subst ea
        have := c5 j hj
        rw [Nat.zero_add] at this
        rw [xi_yi2 _ _ (Or.inl (by omega)), this, i4.i _ hRn]
      · rw [xi_yi2 _ _ (Or.inl (by omega)), i5.i _ (by omega), i3.i _ (by omega)]; exact (r1 m (by omega)).2.1 j hj
    · by_cases ea : m = i
      · subst ea
        rw [xi_yi1, i6.i _ hRn]
      · rw [xi_yi2 _ _ (Or.inl (by omega)), i5.i _ (by omega), i3.i _ (by omega)]; exact (r1 m (by omega)).2.2
end TAKE
