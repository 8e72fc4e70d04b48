/-! The class's world made. -/
set_option linter.unusedVariables false
theorem GL_lo {n A : Nat} {h h' : XH} (g : GL h A) (l : Lo n h h') (q : A + 3 ≤ n) : GL h' A := by
  obtain ⟨g1, g2, g3, g4, g5, g6, g7⟩ := g
  obtain ⟨⟨a1, -⟩, -, -, a4⟩ := l A (by omega)
  obtain ⟨⟨b1, b2⟩, -⟩ := l (A + 1) (by omega)
  obtain ⟨⟨c1, c2⟩, -⟩ := l (A + 2) (by omega)
  exact ⟨a1.trans g1, (a4 1).trans g2, b1.trans g3, b2.trans g4, (a4 2).trans g5, c1.trans g6, c2.trans g7⟩
theorem AL_lo {n A : Nat} {h h' : XH} (g : AL h A) (l : Lo n h h') (q : A + 3 ≤ n) : AL h' A := by
  obtain ⟨g1, ⟨g2, g3, g4⟩, g5, g6, g7⟩ := g
  obtain ⟨⟨a1, -⟩, -, -, a4⟩ := l A (by omega)
  obtain ⟨⟨b1, b2⟩, -⟩ := l (A + 1) (by omega)
  obtain ⟨⟨c1, c2⟩, -⟩ := l (A + 2) (by omega)
  exact ⟨a1.trans g1, ⟨(a4 2).trans g2, b1.trans g3, b2.trans g4⟩, (a4 3).trans g5, c1.trans g6, c2.trans g7⟩
theorem PL_lo {n A : Nat} {h h' : XH} (g : PL h A) (l : Lo n h h') (q : A + 5 ≤ n) : PL h' A := by
  obtain ⟨g1, ⟨g2, g3, g4⟩, ⟨g5, g6, g7⟩, ⟨g8, g9, g10⟩, g11, g12, g13⟩ := g
  obtain ⟨⟨a1, -⟩, -, -, a4⟩ := l A (by omega)
  obtain ⟨⟨b1, b2⟩, -⟩ := l (A + 1) (by omega)
  obtain ⟨⟨c1, c2⟩, -⟩ := l (A + 2) (by omega)
  obtain ⟨⟨d1, d2⟩, -⟩ := l (A + 3) (by omega)
  obtain ⟨⟨e1, e2⟩, -⟩ := l (A + 4) (by omega)
  exact ⟨a1.trans g1, ⟨(a4 0).trans g2, b1.trans g3, b2.trans g4⟩, ⟨(a4 1).trans g5, c1.trans g6, c2.trans g7⟩, ⟨(a4 2).trans g8, d1.trans g9, d2.trans g10⟩, (a4 3).trans g11, e1.trans g12, e2.trans g13⟩
theorem ML_lo {n A : Nat} {h h' : XH} (g : ML h A) (l : Lo n h h') (q : A + 8 ≤ n) : ML h' A := by
  obtain ⟨g1, ⟨g2, g3, g4⟩, ⟨g5, g6, g7⟩, g8, g9⟩ := g
  obtain ⟨⟨a1, -⟩, -, -, a4⟩ := l A (by omega)
  obtain ⟨⟨b1, b2⟩, -⟩ := l (A + 1) (by omega)
  obtain ⟨⟨c1, c2⟩, -⟩ := l (A + 2) (by omega)
  exact ⟨a1.trans g1, ⟨(a4 3).trans g2, b1.trans g3, b2.trans g4⟩, ⟨(a4 4).trans g5, c1.trans g6, c2.trans g7⟩, (a4 5).trans g8, PL_lo g9 l (by omega)⟩
/-- a new object, its constructor about to run -/
theorem new_0 {h : XH} (k : Nat) (hz : ∀ a j, xt h ≤ a → xi h a j = 0) : xt (ya h k 0) = xt h + 1 ∧ xk (ya h k 0) (xt h) = k ∧ ∀ a j, xt h ≤ a → xi (ya h k 0) a j = 0 := ⟨rfl, if_pos rfl, fun a j ha => by
  show (if a = xt h then 0 else xi h a j) = 0
  split
  · rfl
  · exact hz a j ha⟩
theorem xr_yr1 (h : XH) (a k : Nat) (x : Option Nat) : xr (yr h a k x) a k = x := if_pos ⟨rfl, rfl⟩
theorem xr_yr2 (h : XH) {a k b j : Nat} (x : Option Nat) (q : b ≠ a ∨ j ≠ k) : xr (yr h a k x) b j = xr h b j := if_neg (fun z => q.elim (fun w => w z.1) (fun w => w z.2))
theorem Mk_a {β : Type} {Y c k g n : Nat} {h0 h : XH} {L : List (Nat × Nat × Nat × Nat)} {f : XH → XP β} {Q : β → XH → Prop} (p : Mk Y c h0 h L) (hc : ¬ c = 0) (hk : ∀ q ∈ L, ¬ q.1 = k) (K : ∀ h', Mk Y c h0 h' (L ++ [(k, L.length + 1, g, n)]) → xo (f h') Q) : xo (xal h g n fun w h2 => xg (xk h2 Y = c) <| xlt (yr h2 Y k (some w)) fun h3 => f h3) Q := by
  have := Mk_s (β := β) (g := g) (n := n) p hc hk K
  rw [xg_t (by rw [p.1.2]; exact hc)] at this
  exact this
/-- a part made at A, n cells long -/
def Sb (A n : Nat) (h h' : XH) : Prop := xt h' = A + n ∧ Lo A h h' ∧ ∀ a j, A + n ≤ a → xi h' a j = 0
section WMK
variable {E : XG} {h : XH} {A : Nat}
theorem FX3_init_o (ht : xt h = A + 1) (hk : xk h A = 4) (hz : ∀ a j, A ≤ a → xi h a j = 0) {p : Nat} (hp : p ≤ 8) : xo (FX3_init E A (nI p) h) (fun _ h' => Mk A 4 h h' [(0, 1, 13, p), (1, 2, 12, p)]) := by
  have p0 : Mk A 4 h h [] := Mk_0 ht hk (fun a j ha => hz a j (by omega))
  have c0 : (0 : Int32) ≤ nI p := of_eq_true (nI_0le (by omega))
  unfold FX3_init
  rw [xz_nI (by omega)]
  refine xo_g ⟨by rw [hk]; decide, c0, hp⟩ (Mk_a p0 (by decide) (by decide) (fun h1 p1 => xo_g ⟨by rw [p1.1.2]; decide, c0, hp⟩ (Mk_a p1 (by decide) (fun q hq => by rw [List.mem_singleton.mp hq]; show ¬ (0 : Nat) = 1; decide) (fun h2 p2 => xo_v p2))))
theorem FX2_init_o (ht : xt h = A + 1) (hk : xk h A = 3) (hz : ∀ a j, A ≤ a → xi h a j = 0) (p : Int32) : xo (FX2_init E A p h) (fun _ h' => Sb A 3 h h' ∧ GL h' A ∧ xi h' A 0 = p) := by
  have p0 : Mk A 3 h h [] := Mk_0 ht hk (fun a j ha => hz a j (by omega))
  unfold FX2_init
  refine Mk_s p0 (by decide) (by decide) (fun h1 p1 => Mk_s p1 (by decide) (by decide) (fun h2 p2 => ?_))
  obtain ⟨⟨t2, k2⟩, l2, r2, z2, -⟩ := p2
  have e1 := r2 (1, 1, 12, 64) (by decide)
  have e2 := r2 (2, 2, 12, 8) (by decide)
  refine xo_g k2 (xo_lt (xo_g k2 (xo_lt (xo_v ⟨⟨t2, (l2.trans (Lo_yi _ _ _ _ (Nat.le_refl _))).trans (Lo_yi _ _ _ _ (Nat.le_refl _)), fun a j ha => ?_⟩, ⟨k2, e1.2.1, e1.2.2.1, e1.2.2.2, e2.2.1, e2.2.2.1, e2.2.2.2⟩, xi_yi1 _ _ _ _⟩))))
  rw [xi_yi2 _ _ (Or.inl (by omega)), xi_yi2 _ _ (Or.inl (by omega))]
  exact z2 a j (by omega)
theorem FX4_init_o (ht : xt h = A + 1) (hk : xk h A = 5) (hz : ∀ a j, A ≤ a → xi h a j = 0) : xo (FX4_init E A h) (fun _ h' => Sb A 5 h h' ∧ PL h' A) := by
  have p0 : Mk A 5 h h [] := Mk_0 ht hk (fun a j ha => hz a j (by omega))
  unfold FX4_init
  refine Mk_s p0 (by decide) (by decide) (fun h1 p1 => Mk_s p1 (by decide) (by decide) (fun h2 p2 => Mk_s p2 (by decide) (by decide) (fun h3 p3 => Mk_s p3 (by decide) (by decide) (fun h4 p4 => ?_))))
  obtain ⟨⟨t2, k2⟩, l2, r2, z2, -⟩ := p4
  have e1 := r2 (0, 1, 12, 8) (by decide)
  have e2 := r2 (1, 2, 12, 8) (by decide)
  have e3 := r2 (2, 3, 12, 9) (by decide)
  have e4 := r2 (3, 4, 12, 9) (by decide)
  exact xo_v ⟨⟨t2, l2, fun a j ha => z2 a j (by omega)⟩, k2, e1.2, e2.2, e3.2, e4.2⟩
theorem FX0_init_o (ht : xt h = A + 1) (hk : xk h A = 1) (hz : ∀ a j, A ≤ a → xi h a j = 0) (C : Nat) : xo (FX0_init E A C h) (fun _ h' => Sb A 3 h h' ∧ AL h' A) := by
  have p0 : Mk A 1 h h [] := Mk_0 ht hk (fun a j ha => hz a j (by omega))
  unfold FX0_init
  refine Mk_s p0 (by decide) (by decide) (fun h1 p1 => Mk_s p1 (by decide) (by decide) (fun h2 p2 => ?_))
  obtain ⟨⟨t2, k2⟩, l2, r2, z2, -⟩ := p2
  have e1 := r2 (2, 1, 12, 8) (by decide)
  have e2 := r2 (3, 2, 12, 8) (by decide)
  refine xo_g k2 (xo_lt (xo_g k2 (xo_lt (xo_v ⟨⟨t2, (l2.trans (Lo_yr _ _ _ _ (Nat.le_refl _))).trans (Lo_yr _ _ _ _ (Nat.le_refl _)), fun a j ha => z2 a j (by omega)⟩, k2, ⟨?_, e1.2.2⟩, ?_, e2.2.2⟩))))
  · rw [xr_yr2 _ _ (Or.inr (by decide)), xr_yr2 _ _ (Or.inr (by decide))]; exact e1.2.1
  · rw [xr_yr2 _ _ (Or.inr (by decide)), xr_yr2 _ _ (Or.inr (by decide))]; exact e2.2.1
theorem FX1_init_o (ht : xt h = A + 1) (hk : xk h A = 2) (hz : ∀ a j, A ≤ a → xi h a j = 0) (p : Int32) (G : Nat) : xo (FX1_init E A p G h) (fun _ h' => Sb A 8 h h' ∧ ML h' A ∧ xi h' A 0 = p) := by
  have p0 : Mk A 2 h h [] := Mk_0 ht hk (fun a j ha => hz a j (by omega))
  unfold FX1_init
  refine Mk_s p0 (by decide) (by decide) (fun h1 p1 => Mk_s p1 (by decide) (by decide) (fun h2 p2 => ?_))
  obtain ⟨⟨t2, k2⟩, l2, r2, z2, -⟩ := p2
  have t2 : xt h2 = A + 3 := t2
  have e1 := r2 (3, 1, 12, 8) (by decide)
  have e2 := r2 (4, 2, 12, 64) (by decide)
  obtain ⟨n1, n2, n3⟩ := new_0 (h := h2) 5 (fun a j ha => z2 a j (by omega))
  refine xo_g (by rw [k2]; decide) ?_
  show xo (xb (FX4_init E (xt h2) (ya h2 5 0)) fun _ h9 => xg (xk h9 A = 2) <| xlt (yr h9 A 5 (some (xt h2))) fun h10 => xg (xk h10 A = 2) <| xlt (yi h10 A 0 p) fun h11 => xg (xk h11 A = 2) <| xlt (yr h11 A 1 (some G)) fun h12 => xg (xk h12 A = 2) <| xlt (yr h12 A 2 (some G)) fun h13 => xv () h13) _
  refine xo_b (FX4_init_o n1 n2 n3) (fun _ h9 q9 => ?_)
  obtain ⟨⟨t9, l9, z9⟩, pl⟩ := q9
  rw [t2] at t9 l9 z9 pl
  have l9 : Lo (A + 3) h2 h9 := (Lo_ya h2 5 0 (by omega)).trans l9
  obtain ⟨⟨a1, -⟩, -, -, a4⟩ := l9 A (by omega)
  obtain ⟨⟨b1, b2⟩, -⟩ := l9 (A + 1) (by omega)
  obtain ⟨⟨c1, c2⟩, -⟩ := l9 (A + 2) (by omega)
  have k9 : xk h9 A = 2 := a1.trans k2
  refine xo_g k9 (xo_lt (xo_g k9 (xo_lt (xo_g k9 (xo_lt (xo_g k9 (xo_lt (xo_v ⟨⟨t9, ?_, fun a j ha => ?_⟩, ⟨k9, ⟨?_, b1.trans e1.2.2.1, b2.trans e1.2.2.2⟩, ⟨?_, c1.trans e2.2.2.1, c2.trans e2.2.2.2⟩, ?_, ?_⟩, xi_yi1 _ _ _ _⟩))))))))
  · exact ((((l2.trans (l9.less (by omega))).trans (Lo_yr _ _ _ _ (Nat.le_refl _))).trans (Lo_yi _ _ _ _ (Nat.le_refl _))).trans (Lo_yr _ _ _ _ (Nat.le_refl _))).trans (Lo_yr _ _ _ _ (Nat.le_refl _))
  · show xi (yi h9 A 0 p) a j = 0
    rw [xi_yi2 _ _ (Or.inl (by omega))]
    exact z9 a j (by omega)
  · rw [xr_yr2 _ _ (Or.inr (by decide)), xr_yr2 _ _ (Or.inr (by decide))]
    show xr (yr h9 A 5 _) A 3 = _
    rw [xr_yr2 _ _ (Or.inr (by decide)), a4]; exact e1.2.1
  · rw [xr_yr2 _ _ (Or.inr (by decide)), xr_yr2 _ _ (Or.inr (by decide))]
    show xr (yr h9 A 5 _) A 4 = _
    rw [xr_yr2 _ _ (Or.inr (by decide)), a4]; exact e2.2.1
  · rw [xr_yr2 _ _ (Or.inr (by decide)), xr_yr2 _ _ (Or.inr (by decide))]
    show xr (yr h9 A 5 _) A 5 = _
    rw [xr_yr1, t2]
  · obtain ⟨g1, ⟨g2, g3⟩, ⟨g5, g6⟩, ⟨g8, g9⟩, g11, g12⟩ := pl
    have q : ∀ j, xr (yr (yr (yi (yr h9 A 5 (some (xt h2))) A 0 p) A 1 (some G)) A 2 (some G)) (A + 3) j = xr h9 (A + 3) j := fun j => by
      rw [xr_yr2 _ _ (Or.inl (by omega)), xr_yr2 _ _ (Or.inl (by omega))]
      show xr (yr h9 A 5 _) (A + 3) j = _
      rw [xr_yr2 _ _ (Or.inl (by omega))]
    exact ⟨g1, ⟨(q 0).trans g2, g3⟩, ⟨(q 1).trans g5, g6⟩, ⟨(q 2).trans g8, g9⟩, (q 3).trans g11, g12⟩
/-- the world's first rows: n cells behind W, L of them laid -/
def Wb (W n : Nat) (h0 h : XH) (L : List (Nat × Nat × Nat × Nat × Nat)) : Prop := (xt h = W + 1 + n ∧ xk h W = 8) ∧ Lo W h0 h ∧ (∀ q ∈ L, (q.1 ≤ n ∧ 0 < q.2.2.1 ∧ q.2.2.1 ≤ n) ∧ xr h (W + q.1) q.2.1 = some (W + q.2.2.1) ∧ xk h (W + q.2.2.1) = q.2.2.2.1 ∧ xn h (W + q.2.2.1) = q.2.2.2.2) ∧ ∀ a j, W ≤ a → xi h a j = 0
/-- what stays of a row when cells above grow and a field of W is put -/
theorem Wb_keep {W n m k v : Nat} {h0 h h1 : XH} {L : List (Nat × Nat × Nat × Nat × Nat)} (p : Wb W n h0 h L) (l : Lo (W + 1 + n) h h1) (hm : n ≤ m) (hk : ∀ q ∈ L, q.1 = 0 → ¬ q.2.1 = k) : ∀ q ∈ L, (q.1 ≤ m ∧ 0 < q.2.2.1 ∧ q.2.2.1 ≤ m) ∧ xr (yr h1 W k (some v)) (W + q.1) q.2.1 = some (W + q.2.2.1) ∧ xk h1 (W + q.2.2.1) = q.2.2.2.1 ∧ xn h1 (W + q.2.2.1) = q.2.2.2.2 := fun q hq => by
  obtain ⟨⟨a1, a2, a3⟩, a4, a5, a6⟩ := p.2.2.1 q hq
  obtain ⟨-, -, -, b1⟩ := l (W + q.1) (by omega)
  obtain ⟨⟨c1, c2⟩, -⟩ := l (W + q.2.2.1) (by omega)
  refine ⟨⟨by omega, a2, by omega⟩, ?_, c1.trans a5, c2.trans a6⟩
  by_cases e : q.1 = 0
  · rw [xr_yr2 _ _ (Or.inr (hk q hq e)), b1]; exact a4
  · rw [xr_yr2 _ _ (Or.inl (by omega)), b1]; exact a4
theorem Wn_s {β : Type} {W n k p : Nat} {h0 h : XH} {L : List (Nat × Nat × Nat × Nat × Nat)} {f : XH → XP β} {Q : β → XH → Prop} (b : Wb W n h0 h L) (hp : p ≤ 8) (hk : ∀ q ∈ L, q.1 = 0 → ¬ q.2.1 = k) {P : Int32} (eP : P = nI p) (K : ∀ h', Wb W (n + 3) h0 h' (L ++ [(0, k, n + 1, 4, 0), (n + 1, 0, n + 2, 13, p), (n + 1, 1, n + 3, 12, p)]) → xo (f h') Q) : xo (xg (xk h W ≠ 0) <| xal h 4 0 fun w1 h2 => xb (FX3_init E w1 P h2) fun _ h3 => xg (xk h3 W = 8) <| xlt (yr h3 W k (some w1)) fun h4 => f h4) Q := by
  subst eP
  obtain ⟨⟨t0, k0⟩, l0, r0, z0⟩ := id b
  obtain ⟨n1, n2, n3⟩ := new_0 (h := h) 4 (fun a j ha => z0 a j (by omega))
  refine xo_g (by rw [k0]; decide) ?_
  show xo (xb (FX3_init E (xt h) (nI p) (ya h 4 0)) fun _ h3 => xg (xk h3 W = 8) <| xlt (yr h3 W k (some (xt h))) fun h4 => f h4) Q
  have n4 : xn (ya h 4 0) (xt h) = 0 := if_pos rfl
  refine xo_b (FX3_init_o n1 n2 n3 hp) (fun _ h3 q3 => ?_)
  obtain ⟨⟨t3, k3⟩, l3, r3, z3, e3⟩ := q3
  have l3' : Lo (W + 1 + n) h h3 := (Lo_ya h 4 0 (by omega)).trans (l3.less (by omega))
  have kW : xk h3 W = 8 := (l3' W (by omega)).1.1.trans k0
  have f1 := r3 (0, 1, 13, p) (by simp)
  have f2 := r3 (1, 2, 12, p) (by simp)
  refine xo_g kW (xo_lt (K _ ⟨⟨?_, kW⟩, (l0.trans (l3'.less (by omega))).trans (Lo_yr _ _ _ _ (Nat.le_refl _)), fun q hq => ?_, fun a j ha => ?_⟩))
  · show xt h3 = _
    rw [t3, t0]; simp only [List.length_cons, List.length_nil]; omega
  · rcases List.mem_append.mp hq with z | z
    · exact Wb_keep b l3' (by omega) hk q z
    · rw [t0] at f1 f2 k3 e3 n4
      have g1 : xr h3 (W + (n + 1)) 0 = some (W + (n + 2)) ∧ xk h3 (W + (n + 2)) = 13 ∧ xn h3 (W + (n + 2)) = p := by
        have := f1.2
        rw [show W + 1 + n + (0, 1, 13, p).2.1 = W + (n + 2) by show W + 1 + n + 1 = _; omega, show W + 1 + n = W + (n + 1) by omega] at this
        exact this
      have g2 : xr h3 (W + (n + 1)) 1 = some (W + (n + 3)) ∧ xk h3 (W + (n + 3)) = 12 ∧ xn h3 (W + (n + 3)) = p := by
        have := f2.2
        rw [show W + 1 + n + (1, 2, 12, p).2.1 = W + (n + 3) by show W + 1 + n + 2 = _; omega, show W + 1 + n = W + (n + 1) by omega] at this
        exact this
      have g0 : xk h3 (W + (n + 1)) = 4 ∧ xn h3 (W + (n + 1)) = 0 := by
        rw [show W + (n + 1) = W + 1 + n by omega]
        exact ⟨k3, e3.2.trans n4⟩
      rcases List.mem_cons.mp z with z | z
      · rw [z]
        refine ⟨⟨Nat.zero_le _, by show 0 < n + 1; omega, by show n + 1 ≤ n + 3; omega⟩, ?_, g0.1, g0.2⟩
        show xr (yr h3 W k (some (xt h))) W k = some (W + (n + 1))
        rw [xr_yr1, t0, show W + 1 + n = W + (n + 1) by omega]
      rcases List.mem_cons.mp z with z | z
      · rw [z]
        refine ⟨⟨by show n + 1 ≤ n + 3; omega, by show 0 < n + 2; omega, by show n + 2 ≤ n + 3; omega⟩, ?_, g1.2.1, g1.2.2⟩
        show xr (yr h3 W k (some (xt h))) (W + (n + 1)) 0 = some (W + (n + 2))
        rw [xr_yr2 _ _ (Or.inl (by omega))]
        exact g1.1
      · rw [List.mem_singleton.mp z]
        refine ⟨⟨by show n + 1 ≤ n + 3; omega, by show 0 < n + 3; omega, by show n + 3 ≤ n + 3; omega⟩, ?_, g2.2.1, g2.2.2⟩
        show xr (yr h3 W k (some (xt h))) (W + (n + 1)) 1 = some (W + (n + 3))
        rw [xr_yr2 _ _ (Or.inl (by omega))]
        exact g2.1
  · show xi h3 a j = 0
    by_cases c : a < xt h
    · rw [(l3' a (by omega)).2.1]; exact z0 a j ha
    · by_cases c2 : a = xt h
      · subst c2; rw [e3.1]; exact n3 _ _ (Nat.le_refl _)
      · exact z3 a j (by omega)
theorem Wr_s {β : Type} {W n k g len : Nat} {h0 h : XH} {L : List (Nat × Nat × Nat × Nat × Nat)} {f : XH → XP β} {Q : β → XH → Prop} (b : Wb W n h0 h L) (hk : ∀ q ∈ L, q.1 = 0 → ¬ q.2.1 = k) (K : ∀ h', Wb W (n + 1) h0 h' (L ++ [(0, k, n + 1, g, len)]) → xo (f h') Q) : xo (xg (xk h W ≠ 0) <| xal h g len fun w1 h2 => xg (xk h2 W = 8) <| xlt (yr h2 W k (some w1)) fun h4 => f h4) Q := by
  obtain ⟨⟨t0, k0⟩, l0, r0, z0⟩ := id b
  have l3' : Lo (W + 1 + n) h (ya h g len) := Lo_ya h g len (by omega)
  have kW : xk (ya h g len) W = 8 := (l3' W (by omega)).1.1.trans k0
  refine xo_g (by rw [k0]; decide) ?_
  show xo (xg (xk (ya h g len) W = 8) <| xlt (yr (ya h g len) W k (some (xt h))) fun h4 => f h4) Q
  refine xo_g kW (xo_lt (K _ ⟨⟨?_, kW⟩, (l0.trans (l3'.less (by omega))).trans (Lo_yr _ _ _ _ (Nat.le_refl _)), fun q hq => ?_, fun a j ha => ?_⟩))
  · show xt h + 1 = _
    rw [t0]; omega
  · rcases List.mem_append.mp hq with z | z
    · exact Wb_keep b l3' (by omega) hk q z
    · rw [List.mem_singleton.mp z]
      have e : W + (n + 1) = xt h := by omega
      refine ⟨⟨Nat.zero_le _, by show 0 < n + 1; omega, Nat.le_refl _⟩, ?_, if_pos e, if_pos e⟩
      show xr (yr (ya h g len) W k (some (xt h))) W k = some (W + (n + 1))
      rw [xr_yr1, e]
  · show (if a = xt h then 0 else xi h a j) = 0
    split
    · rfl
    · exact z0 a j ha
/-- the world's rows and what hangs on them so far -/
def Wf (W ng nm na : Nat) (h : XH) : Prop := (xk h W = 8 ∧ ∀ q ∈ wT, xr h (W + q.1) q.2.1 = some (W + q.2.2.1) ∧ xk h (W + q.2.2.1) = q.2.2.2.1 ∧ xn h (W + q.2.2.1) = q.2.2.2.2) ∧ (∀ g, g < ng → xr h (W + 10) g = some (W + 14 + 3 * g) ∧ GL h (W + 14 + 3 * g) ∧ xi h (W + 14 + 3 * g) 0 = nI g) ∧ (∀ m, m < nm → xr h (W + 11) m = some (W + 32 + 8 * m) ∧ ML h (W + 32 + 8 * m) ∧ xi h (W + 32 + 8 * m) 0 = nI m) ∧ (∀ a, a < na → xr h (W + 12) a = some (W + 80 + 3 * a) ∧ AL h (W + 80 + 3 * a)) ∧ ∀ a j, W ≤ a → a < W + 14 → xi h a j = 0
theorem wT13 : ∀ q ∈ wT, q.1 < 10 ∧ q.2.2.1 < 14 := by decide
theorem Wf_lo {W ng nm na n : Nat} {h h' : XH} (p : Wf W ng nm na h) (l : Lo n h h') (h1 : W + 14 ≤ n) (h2 : W + 14 + 3 * ng ≤ n) (h3 : nm = 0 ∨ W + 32 + 8 * nm ≤ n) (h4 : na = 0 ∨ W + 80 + 3 * na ≤ n) : Wf W ng nm na h' := by
  obtain ⟨⟨p1, p2⟩, p3, p4, p5, p6⟩ := p
  refine ⟨⟨(l W (by omega)).1.1.trans p1, fun q hq => ?_⟩, fun g hg => ?_, fun m hm => ?_, fun a ha => ?_, fun a j q1 q2 => ((l a (by omega)).2.1 j).trans (p6 a j q1 q2)⟩
  · have := wT13 q hq
    obtain ⟨z1, z2, z3⟩ := p2 q hq
    exact ⟨((l (W + q.1) (by omega)).2.2.2 _).trans z1, (l (W + q.2.2.1) (by omega)).1.1.trans z2, (l (W + q.2.2.1) (by omega)).1.2.trans z3⟩
  · obtain ⟨z1, z2, z3⟩ := p3 g hg
    exact ⟨((l (W + 10) (by omega)).2.2.2 _).trans z1, GL_lo z2 l (by omega), ((l _ (by omega)).2.1 0).trans z3⟩
  · obtain ⟨z1, z2, z3⟩ := p4 m hm
    exact ⟨((l (W + 11) (by omega)).2.2.2 _).trans z1, ML_lo z2 l (by omega), ((l _ (by omega)).2.1 0).trans z3⟩
  · obtain ⟨z1, z2⟩ := p5 a ha
    exact ⟨((l (W + 12) (by omega)).2.2.2 _).trans z1, AL_lo z2 l (by omega)⟩
theorem WL_of {W : Nat} {h : XH} (p : Wf W 6 6 8 h) : WL h W ∧ WN h W := by
  obtain ⟨⟨p1, p2⟩, p3, p4, p5, p6⟩ := p
  exact ⟨⟨p1, p2, fun g hg => ⟨(p3 g hg).1, (p3 g hg).2.1⟩, fun g hg => ⟨(p4 g hg).1, (p4 g hg).2.1⟩, p5⟩, fun g hg => (p3 g hg).2.2, fun g hg => (p4 g hg).2.2⟩
/-- a ref put in the world's list does not touch the rest -/
theorem Wf_yr {W ng nm na b k : Nat} {h : XH} {v : Option Nat} (p : Wf W ng nm na h) (hb : b = W + 10 ∧ ng ≤ k ∨ b = W + 11 ∧ nm ≤ k ∨ b = W + 12 ∧ na ≤ k) : Wf W ng nm na (yr h b k v) := by
  obtain ⟨⟨p1, p2⟩, p3, p4, p5, p6⟩ := p
  have e : ∀ a j, a < W + 10 ∨ W + 13 ≤ a → xr (yr h b k v) a j = xr h a j := fun a j q => xr_yr2 _ _ (Or.inl (by omega))
  refine ⟨⟨p1, fun q hq => ?_⟩, fun g hg => ?_, fun m hm => ?_, fun a ha => ?_, p6⟩
  · have := wT13 q hq
    obtain ⟨z1, z2, z3⟩ := p2 q hq
    exact ⟨(e _ _ (by omega)).trans z1, z2, z3⟩
  · obtain ⟨z1, ⟨g1, g2, g3, g4, g5, g6⟩, z3⟩ := p3 g hg
    exact ⟨(xr_yr2 _ _ (by omega)).trans z1, ⟨g1, (e _ _ (by omega)).trans g2, g3, g4, (e _ _ (by omega)).trans g5, g6⟩, z3⟩
  · obtain ⟨z1, ⟨g1, ⟨g2, g3⟩, ⟨g5, g6⟩, g8, b1, ⟨b2, b3⟩, ⟨b4, b5⟩, ⟨b6, b7⟩, b8, b9⟩, z3⟩ := p4 m hm
    exact ⟨(xr_yr2 _ _ (by omega)).trans z1, ⟨g1, ⟨(e _ _ (by omega)).trans g2, g3⟩, ⟨(e _ _ (by omega)).trans g5, g6⟩, (e _ _ (by omega)).trans g8, b1, ⟨(e _ _ (by omega)).trans b2, b3⟩, ⟨(e _ _ (by omega)).trans b4, b5⟩, ⟨(e _ _ (by omega)).trans b6, b7⟩, (e _ _ (by omega)).trans b8, b9⟩, z3⟩
  · obtain ⟨z1, g1, ⟨g2, g3⟩, g5, g6⟩ := p5 a ha
    exact ⟨(xr_yr2 _ _ (by omega)).trans z1, g1, ⟨(e _ _ (by omega)).trans g2, g3⟩, (e _ _ (by omega)).trans g5, g6⟩
end WMK
