/-! The class keeps a state and takes it again. -/
set_option linter.unusedVariables false
theorem xo_cpy {β : Type} {a b : Nat} {s d n : Int32} {h : XH} {f : XH → XP β} {Q : β → XH → Prop} (sp dp nn A B : Nat) (hs : s = nI sp) (hd : d = nI dp) (hn : n = nI nn) (ka : xk h a = 12) (kb : xk h b = 12) (la : xn h a = A) (lb : xn h b = B) (q1 : sp + nn ≤ A) (q2 : dp + nn ≤ B) (hA : A < 100000) (hB : B < 100000) (K : ∀ h', iw (fun x => x = b) h h' → (∀ j, j < nn → xi h' b (dp + j) = xi h a (sp + j)) → (∀ k, k < dp ∨ dp + nn ≤ k → xi h' b k = xi h b k) → xo (f h') Q) : xo (xg ((xk h a = 12 ∧ xk h b = 12) ∧ ((0 : Int32) ≤ s ∧ (0 : Int32) ≤ d ∧ (0 : Int32) ≤ n) ∧ (s : Int32).toNatClampNeg + (n : Int32).toNatClampNeg ≤ xn h a ∧ (d : Int32).toNatClampNeg + (n : Int32).toNatClampNeg ≤ xn h b) <| xlt (yc h b (va_cpy (xi h a) (xi h b) (s : Int32).toNatClampNeg (d : Int32).toNatClampNeg (n : Int32).toNatClampNeg)) f) Q := by
  subst hs hd hn
  rw [xz_nI (n := sp) (by omega), xz_nI (n := dp) (by omega), xz_nI (n := nn) (by omega), la, lb]
  refine xo_g ⟨⟨ka, kb⟩, ⟨of_eq_true (nI_0le (by omega)), of_eq_true (nI_0le (by omega)), of_eq_true (nI_0le (by omega))⟩, q1, q2⟩ (xo_lt (K _ (iw_yc _ _ _ rfl) (fun j hj => ?_) (fun k hk => ?_)))
  · rw [xi_yc, if_pos rfl]
    unfold va_cpy
    rw [if_pos ⟨by omega, by omega⟩]
    congr 1
    omega
  · rw [xi_yc, if_pos rfl]
    unfold va_cpy
    rw [if_neg (fun q => by omega)]
/-- the row R of the class holds T -/
def CR (h : XH) (R : Nat) (S : SD) (T : ST) : Prop := (∀ m a, m < snm S → a < nuS S m → xi h R (73 * m + a) = nI (tbd T m a)) ∧ (∀ m g a, m < snm S → g < nlS2 S m → a < nuS S m → xi h R (73 * m + 8 + (8 * g + a)) = nI (tac T m g a)) ∧ (∀ m, m < snm S → xi h R (73 * m + 72) = nI (whS S T m)) ∧ (∀ a x, a < sna S → x < nuS S (saf S a) → xi h R (438 + 16 * a + x) = nI (ttp T a x)) ∧ (∀ a x, a < sna S → x < nlS2 S (saf S a) → xi h R (438 + 16 * a + 8 + x) = nI (tbt T a x)) ∧ ∀ w, w < 3 → xi h R (566 + w) = tcc T w
theorem CR_iw {h h' : XH} {R : Nat} {S : SD} {T : ST} {B : Nat → Prop} (c : CR h R S T) (i : iw B h h') (h0 : ¬ B R) : CR h' R S T := by
  refine ⟨fun m a q1 q2 => ?_, fun m g a q1 q2 q3 => ?_, fun m q1 => ?_, fun a x q1 q2 => ?_, fun a x q1 q2 => ?_, fun x q1 => ?_⟩
  · rw [i.i _ h0]; exact c.1 m a q1 q2
  · rw [i.i _ h0]; exact c.2.1 m g a q1 q2 q3
  · rw [i.i _ h0]; exact c.2.2.1 m q1
  · rw [i.i _ h0]; exact c.2.2.2.1 a x q1 q2
  · rw [i.i _ h0]; exact c.2.2.2.2.1 a x q1 q2
  · rw [i.i _ h0]; exact c.2.2.2.2.2 x q1
theorem k73 (i : Nat) (hi : i < 8) : nI (73 * i) + 73 - 1 = nI (73 * i + 72) := by
  rw [show (73 : Int32) = nI 73 from rfl, nI_a, show (1 : Int32) = nI 1 from rfl, pk_sub (by omega)]
  rfl
def rTS (W a : Nat) : Prop := a = W + 13 ∨ (W + 32 ≤ a ∧ a < W + 80 ∧ (a - (W + 32)) % 8 < 3) ∨ (W + 80 ≤ a ∧ a < W + 104 ∧ 0 < (a - (W + 80)) % 3)
section KEEP
variable {E : XG} {h : XH} {W R : Nat} {S : SD} {T : ST}
theorem ML.w {h : XH} {C : Nat} (m : ML h C) : xk h C = 2 ∧ (xr h C 3 = some (C + 1) ∧ xk h (C + 1) = 12 ∧ xn h (C + 1) = 8) ∧ xr h C 4 = some (C + 2) ∧ xk h (C + 2) = 12 ∧ xn h (C + 2) = 64 := ⟨m.1, m.2.1, m.2.2.1⟩
theorem FX7_giveState_o (M : CI h W S T) (hk : xk h R = 12) (hn : xn h R = 569) (hR : R < W ∨ W + 104 ≤ R) : xo (FX7_giveState E W R h) (fun _ h' => iw (fun a => a = R) h h' ∧ CR h' R S T) := by
  have hw := M.wl
  unfold FX7_giveState
  refine xo_g hk ?_
  rw [hn]
  refine xo_t (by rfl) ?_
  refine xlp_inv (Po := fun m => xo m _) (fun i s h' => s = (nI (73 * i), nI i) ∧ iw (fun a => a = R) h h' ∧ ∀ m, m < i → (∀ j, j < 8 → xi h' R (73 * m + j) = xi h (W + 32 + 8 * m + 1) j) ∧ (∀ j, j < 64 → xi h' R (73 * m + 8 + j) = xi h (W + 32 + 8 * m + 2) j) ∧ xi h' R (73 * m + 72) = xi h (W + 32 + 8 * m) 7) 6 (by omega) (fun i s h1 ag hi I again => ?_) ⟨rfl, iw.refl _ _, fun m hm => absurd hm (Nat.not_lt_zero _)⟩
  obtain ⟨rfl, i1, r1⟩ := I
  have w1 := WL_iw hw i1
  have k1 : xk h1 R = 12 := by rw [i1.k, hk]
  have n1 : xn h1 R = 569 := by rw [i1.n, hn]
  by_cases e : i = 6
  · subst e
    refine xo_t (by decide) ?_
    refine xlp_inv (Po := fun m => xo m _) (fun i s h' => s = (nI (438 + 16 * i), nI i) ∧ iw (fun a => a = R) h h' ∧ (∀ k, k < 438 → xi h' R k = xi h1 R k) ∧ ∀ a, a < i → (∀ j, j < 8 → xi h' R (438 + 16 * a + j) = xi h (W + 80 + 3 * a + 1) j) ∧ ∀ j, j < 8 → xi h' R (438 + 16 * a + 8 + j) = xi h (W + 80 + 3 * a + 2) j) 8 (by omega) (fun i s h2 ag hi I again => ?_) ⟨rfl, i1, fun _ _ => rfl, fun a ha => absurd ha (Nat.not_lt_zero _)⟩
    obtain ⟨rfl, i2, f2, r2⟩ := I
    have w2 := WL_iw hw i2
    have k2 : xk h2 R = 12 := by rw [i2.k, hk]
    have n2 : xn h2 R = 569 := by rw [i2.n, hn]
    by_cases e : i = 8
    · subst e
      refine xo_t (by decide) (xo_g w2.1 (xo_n w2.r13 ?_))
      refine xo_cpy 0 566 3 3 569 rfl rfl rfl w2.k13 k2 w2.n13 n2 (by omega) (by omega) (by omega) (by omega) (fun h3 i3 c3 d3 => ?_)
      have i4 : iw (fun a => a = R) h h3 := i2.trans i3 (fun _ q => q) (fun _ q => q)
      obtain ⟨⟨W1, W2⟩, C, T1, T2, T3, T4, T5, T6⟩ := M
      have W1' := W1
      obtain ⟨⟨v1, v2, v3⟩, v4, v5, v6⟩ := W1'
      have b8 : ∀ m, m < snm S → nuS S m ≤ 8 ∧ nlS2 S m ≤ 8 := fun m hm => ⟨(v4 _ (v5 m hm).1).1.2, (v4 _ (v5 m hm).2).1.2⟩
      refine xo_v ⟨i4, fun m a q1 q2 => ?_, fun m g a q1 q2 q3 => ?_, fun m q1 => ?_, fun a x q1 q2 => ?_, fun a x q1 q2 => ?_, fun x q1 => ?_⟩
      · have := b8 m q1
        rw [d3 _ (by omega), f2 _ (by omega), (r1 m (by omega)).1 a (by omega)]
        exact T1 m a q1 q2
      · have := b8 m q1
        rw [d3 _ (by omega), f2 _ (by omega), (r1 m (by omega)).2.1 _ (by omega)]
        exact T2 m g a q1 q2 q3
      · rw [d3 _ (by omega), f2 _ (by omega), (r1 m (by omega)).2.2]
        exact T3 m q1
      · have := b8 _ (v6 a q1).1
        rw [d3 _ (by omega), (r2 a (by omega)).1 x (by omega)]
        exact T4 a x q1 q2
      · have := b8 _ (v6 a q1).1
        rw [d3 _ (by omega), (r2 a (by omega)).2 x (by omega)]
        exact T5 a x q1 q2
      · rw [c3 x q1, i2.i _ (by omega), Nat.zero_add]
        exact T6 x q1
    · have hlt : i < 8 := by omega
      have a2 := (w2.2.2.2.2 i hlt).2
      refine xo_f (by rw [li8, nI_leP (by omega) (by omega)]; omega) (xo_g w2.1 (xo_n w2.r12 (xo_g ⟨w2.k12, by rw [w2.n12]; exact xin_nI hlt (by omega)⟩ (xo_n (w2.a hlt) (xo_g a2.1 (xo_n a2.2.1.1 ?_))))))
      refine xo_cpy 0 (438 + 16 * i) 8 8 569 rfl rfl rfl a2.2.1.2.1 k2 a2.2.1.2.2 n2 (by omega) (by omega) (by omega) (by omega) (fun h3 i3 c3 d3 => ?_)
      have i4 : iw (fun a => a = R) h h3 := i2.trans i3 (fun _ q => q) (fun _ q => q)
      have w3 := WL_iw hw i4
      have a3 := (w3.2.2.2.2 i hlt).2
      refine xo_g w3.1 (xo_n w3.r12 (xo_g ⟨w3.k12, by rw [w3.n12]; exact xin_nI hlt (by omega)⟩ (xo_n (w3.a hlt) (xo_g a3.1 (xo_n a3.2.2.1 ?_)))))
      refine xo_cpy 0 (438 + 16 * i + 8) 8 8 569 rfl (by rw [li8, nI_a]) rfl a3.2.2.2.1 (by rw [i4.k, hk]) a3.2.2.2.2 (by rw [i4.n, hn]) (by omega) (by omega) (by omega) (by omega) (fun h5 i5 c5 d5 => ?_)
      have i6 : iw (fun a => a = R) h h5 := i4.trans i5 (fun _ q => q) (fun _ q => q)
      refine again hlt _ _ ⟨?_, i6, fun k hk => ?_, fun a ha => ⟨fun j hj => ?_, fun j hj => ?_⟩⟩
      · dsimp only
        rw [nI_s, show (16 : Int32) = nI 16 from rfl, nI_a, show 438 + 16 * i + 16 = 438 + 16 * (i + 1) by omega]
      · rw [d5 _ (by omega), d3 _ (by omega)]; exact f2 k hk
      · by_cases ea : a = i
        · subst ea
          rw [d5 _ (by omega), c3 j hj, i2.i _ (by omega), Nat.zero_add]
        · rw [d5 _ (by omega), d3 _ (by omega)]; exact (r2 a (by omega)).1 j hj
      · by_cases ea : a = i
        · subst ea
          rw [c5 j hj, i4.i _ (by omega), Nat.zero_add]
        · rw [d5 _ (by omega), d3 _ (by omega)]; exact (r2 a (by omega)).2 j hj
  · have hlt : i < 6 := by omega
    have a1 := (w1.2.2.2.1 i hlt).2.w
    refine xo_f (by rw [li6, nI_leP (by omega) (by omega)]; omega) (xo_g w1.1 (xo_n w1.r11 (xo_g ⟨w1.k11, by rw [w1.n11]; exact xin_nI hlt (by omega)⟩ (xo_n (w1.m hlt) (xo_g a1.1 (xo_n a1.2.1.1 ?_))))))
    refine xo_cpy 0 (73 * i) 8 8 569 rfl rfl rfl a1.2.1.2.1 k1 a1.2.1.2.2 n1 (by omega) (by omega) (by omega) (by omega) (fun h3 i3 c3 d3 => ?_)
    have i4 : iw (fun a => a = R) h h3 := i1.trans i3 (fun _ q => q) (fun _ q => q)
    have w3 := WL_iw hw i4
    have a3 := (w3.2.2.2.1 i hlt).2.w
    refine xo_g w3.1 (xo_n w3.r11 (xo_g ⟨w3.k11, by rw [w3.n11]; exact xin_nI hlt (by omega)⟩ (xo_n (w3.m hlt) (xo_g a3.1 (xo_n a3.2.2.1 ?_)))))
    refine xo_cpy 0 (73 * i + 8) 64 64 569 rfl (by rw [li8, nI_a]) rfl a3.2.2.2.1 (by rw [i4.k, hk]) a3.2.2.2.2 (by rw [i4.n, hn]) (by omega) (by omega) (by omega) (by omega) (fun h5 i5 c5 d5 => ?_)
    have i6 : iw (fun a => a = R) h h5 := i4.trans i5 (fun _ q => q) (fun _ q => q)
    have w5 := WL_iw hw i6
    have a5 := (w5.2.2.2.1 i hlt).2.w
    dsimp only
    rw [k73 i (by omega)]
    refine xo_g w5.1 (xo_n w5.r11 (xo_g ⟨w5.k11, by rw [w5.n11]; exact xin_nI hlt (by omega)⟩ (xo_n (w5.m hlt) (xo_g a5.1 (xo_g ⟨by rw [i6.k, hk], by rw [i6.n, hn]; exact xin_nI (by omega) (by omega)⟩ (xo_lt ?_))))))
    rw [xz_nI (by omega)]
    refine again hlt _ _ ⟨?_, i6.yi _ _ _ rfl, fun m hm => ⟨fun j hj => ?_, fun j hj => ?_, ?_⟩⟩
    · rw [nI_s, show (73 : Int32) = nI 73 from rfl, nI_a, show 73 * i + 73 = 73 * (i + 1) by omega]
    · by_cases ea : m = i
      · subst ea
        rw [xi_yi2 _ _ (Or.inr (by omega)), d5 _ (by omega), c3 j hj, i1.i _ (by omega), Nat.zero_add]
      · rw [xi_yi2 _ _ (Or.inr (by omega)), d5 _ (by omega), d3 _ (by omega)]; exact (r1 m (by omega)).1 j hj
    · by_cases ea : m = i
      · subst ea
        rw [xi_yi2 _ _ (Or.inr (by omega)), c5 j hj, i4.i _ (by omega), Nat.zero_add]
      · rw [xi_yi2 _ _ (Or.inr (by omega)), d5 _ (by omega), d3 _ (by omega)]; exact (r1 m (by omega)).2.1 j hj
    · by_cases ea : m = i
      · subst ea
        rw [xi_yi1, i6.i _ (by omega)]
      · rw [xi_yi2 _ _ (Or.inr (by omega)), d5 _ (by omega), d3 _ (by omega)]; exact (r1 m (by omega)).2.2
end KEEP
