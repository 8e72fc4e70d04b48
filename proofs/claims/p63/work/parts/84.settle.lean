/-! The class's world cleared and settled; what stays of it. -/
set_option linter.unusedVariables false
/-- the same cell -/
def smC (a : Nat) (h h' : XH) : Prop := (xk h' a = xk h a ∧ xn h' a = xn h a) ∧ (∀ j, xi h' a j = xi h a j) ∧ (∀ j, xj h' a j = xj h a j) ∧ ∀ j, xr h' a j = xr h a j
def smW (W : Nat) (h h' : XH) : Prop := ∀ a, W ≤ a → a < W + 104 → smC a h h'
theorem smC_t {a : Nat} {h h1 h2 : XH} (p : smC a h h1) (q : smC a h1 h2) : smC a h h2 := ⟨⟨q.1.1.trans p.1.1, q.1.2.trans p.1.2⟩, fun j => (q.2.1 j).trans (p.2.1 j), fun j => (q.2.2.1 j).trans (p.2.2.1 j), fun j => (q.2.2.2 j).trans (p.2.2.2 j)⟩
theorem smC_r (a : Nat) (h : XH) : smC a h h := ⟨⟨rfl, rfl⟩, fun _ => rfl, fun _ => rfl, fun _ => rfl⟩
theorem smC_iw {a : Nat} {h h' : XH} {B : Nat → Prop} (i : iw B h h') (q : ¬ B a) : smC a h h' := ⟨⟨i.k a, i.n a⟩, fun j => i.i j q, fun j => i.j a j, fun j => i.r a j⟩
theorem smC_fw {a : Nat} {h h' : XH} {A R : Nat → Nat → Prop} (w : fW A R h h') (q : ∀ j, ¬ A a j) (r : ∀ j, ¬ R a j) : smC a h h' := ⟨⟨w.k a, w.n a⟩, fun j => w.i (q j), fun j => w.j (q j), fun j => w.r (r j)⟩
theorem smC_lo {a n : Nat} {h h' : XH} (l : Lo n h h') (q : a < n) : smC a h h' := l a q
theorem smC_yi {a b k : Nat} {h : XH} {x : Int32} (q : ¬ a = b) : smC a h (yi h b k x) := ⟨⟨rfl, rfl⟩, fun j => xi_yi2 _ _ (Or.inl q), fun _ => rfl, fun _ => rfl⟩
theorem smC_yr {a b k : Nat} {h : XH} {x : Option Nat} (q : ¬ a = b) : smC a h (yr h b k x) := ⟨⟨rfl, rfl⟩, fun _ => rfl, fun _ => rfl, fun j => by rw [xr_yr, if_neg (fun z => q z.1)]⟩
section SMW
variable {E : XG} {h h' h1 h2 : XH} {X W R : Nat} {S : SD} {T : ST} {D : Nat → Int32}
theorem WL_sm (l : WL h W) (e : smW W h h') : WL h' W := by
  obtain ⟨l1, l2, l3, l4, l5⟩ := l
  have k : ∀ a, W ≤ a → a < W + 104 → xk h' a = xk h a := fun a q1 q2 => (e a q1 q2).1.1
  have n : ∀ a, W ≤ a → a < W + 104 → xn h' a = xn h a := fun a q1 q2 => (e a q1 q2).1.2
  have r : ∀ a j, W ≤ a → a < W + 104 → xr h' a j = xr h a j := fun a j q1 q2 => (e a q1 q2).2.2.2 j
  have nt : ∀ q ∈ wT, q.1 < 14 ∧ q.2.2.1 < 14 := by decide
  refine ⟨(k _ (by omega) (by omega)).trans l1, fun q hq => ?_, fun g hg => ?_, fun m hm => ?_, fun a ha => ?_⟩
  · obtain ⟨a1, a2, a3⟩ := l2 q hq
    have := nt q hq
    exact ⟨(r _ _ (by omega) (by omega)).trans a1, (k _ (by omega) (by omega)).trans a2, (n _ (by omega) (by omega)).trans a3⟩
  · obtain ⟨a1, a2, a3, a4, a5, a6, a7, a8⟩ := l3 g hg
    exact ⟨(r _ _ (by omega) (by omega)).trans a1, (k _ (by omega) (by omega)).trans a2, (r _ _ (by omega) (by omega)).trans a3, (k _ (by omega) (by omega)).trans a4, (n _ (by omega) (by omega)).trans a5, (r _ _ (by omega) (by omega)).trans a6, (k _ (by omega) (by omega)).trans a7, (n _ (by omega) (by omega)).trans a8⟩
  · obtain ⟨a1, a2, ⟨a3, a4, a5⟩, ⟨a6, a7, a8⟩, a9, b1, ⟨b2, b3, b4⟩, ⟨b5, b6, b7⟩, ⟨b8, b9, c1⟩, c2, c3, c4⟩ := l4 m hm
    exact ⟨(r _ _ (by omega) (by omega)).trans a1, (k _ (by omega) (by omega)).trans a2, ⟨(r _ _ (by omega) (by omega)).trans a3, (k _ (by omega) (by omega)).trans a4, (n _ (by omega) (by omega)).trans a5⟩, ⟨(r _ _ (by omega) (by omega)).trans a6, (k _ (by omega) (by omega)).trans a7, (n _ (by omega) (by omega)).trans a8⟩, (r _ _ (by omega) (by omega)).trans a9, (k _ (by omega) (by omega)).trans b1, ⟨(r _ _ (by omega) (by omega)).trans b2, (k _ (by omega) (by omega)).trans b3, (n _ (by omega) (by omega)).trans b4⟩, ⟨(r _ _ (by omega) (by omega)).trans b5, (k _ (by omega) (by omega)).trans b6, (n _ (by omega) (by omega)).trans b7⟩, ⟨(r _ _ (by omega) (by omega)).trans b8, (k _ (by omega) (by omega)).trans b9, (n _ (by omega) (by omega)).trans c1⟩, (r _ _ (by omega) (by omega)).trans c2, (k _ (by omega) (by omega)).trans c3, (n _ (by omega) (by omega)).trans c4⟩
  · obtain ⟨a1, a2, ⟨a3, a4, a5⟩, a6, a7, a8⟩ := l5 a ha
    exact ⟨(r _ _ (by omega) (by omega)).trans a1, (k _ (by omega) (by omega)).trans a2, ⟨(r _ _ (by omega) (by omega)).trans a3, (k _ (by omega) (by omega)).trans a4, (n _ (by omega) (by omega)).trans a5⟩, (r _ _ (by omega) (by omega)).trans a6, (k _ (by omega) (by omega)).trans a7, (n _ (by omega) (by omega)).trans a8⟩
theorem WN_sm (l : WN h W) (e : smW W h h') : WN h' W := ⟨fun g hg => ((e _ (by omega) (by omega)).2.1 _).trans (l.1 g hg), fun m hm => ((e _ (by omega) (by omega)).2.1 _).trans (l.2 m hm)⟩
theorem NC_sm (w : WS S) (c : NC h W S) (e : smW W h h') : NC h' W S := fun s k hs hk => ⟨((e _ (by omega) (by omega)).2.2.1 _).trans (c s k hs hk).1, ((e _ (by omega) (by omega)).2.1 _).trans (c s k hs hk).2⟩
theorem CI_sm (M : CI h W S T) (e : smW W h h') : CI h' W S T := by
  obtain ⟨⟨W1, W2⟩, ⟨⟨m1, m2⟩, ⟨m4, m5, m6⟩, m7, m8, m9⟩, T1, T2, T3, T4, T5, T6⟩ := M
  have w := W1
  obtain ⟨⟨w1, w2, w3⟩, w4, w5, w6⟩ := w
  have i : ∀ a j, W ≤ a → a < W + 104 → xi h' a j = xi h a j := fun a j q1 q2 => (e a q1 q2).2.1 j
  have r : ∀ a j, W ≤ a → a < W + 104 → xr h' a j = xr h a j := fun a j q1 q2 => (e a q1 q2).2.2.2 j
  refine ⟨⟨W1, W2⟩, ⟨⟨WL_sm m1 e, WN_sm m2 e⟩, ⟨?_, ?_, ?_⟩, fun g hg => ⟨?_, fun a b ha hb => ?_, fun a ha => ?_⟩, fun m hm => ⟨?_, ?_⟩, fun a ha => ⟨?_, ?_⟩⟩, fun m a q1 q2 => ?_, fun m g a q1 q2 q3 => ?_, fun m q1 => ?_, fun a x q1 q2 => ?_, fun a x q1 q2 => ?_, fun x q1 => ?_⟩
  · exact (i _ _ (by omega) (by omega)).trans m4
  · exact (i _ _ (by omega) (by omega)).trans m5
  · exact (i _ _ (by omega) (by omega)).trans m6
  · exact (i _ _ (by omega) (by omega)).trans (m7 g hg).1
  · exact (i _ _ (by omega) (by omega)).trans ((m7 g hg).2.1 a b ha hb)
  · exact (i _ _ (by omega) (by omega)).trans ((m7 g hg).2.2 a ha)
  · exact (r _ _ (by omega) (by omega)).trans (m8 m hm).1
  · exact (r _ _ (by omega) (by omega)).trans (m8 m hm).2
  · exact (r _ _ (by omega) (by omega)).trans (m9 a ha).1
  · exact (r _ _ (by omega) (by omega)).trans (m9 a ha).2
  · exact (i _ _ (by omega) (by omega)).trans (T1 m a q1 q2)
  · exact (i _ _ (by omega) (by omega)).trans (T2 m g a q1 q2 q3)
  · exact (i _ _ (by omega) (by omega)).trans (T3 m q1)
  · exact (i _ _ (by omega) (by omega)).trans (T4 a x q1 q2)
  · exact (i _ _ (by omega) (by omega)).trans (T5 a x q1 q2)
  · exact (i _ _ (by omega) (by omega)).trans (T6 x q1)
theorem CR_sm (c : CR h R S T) (e : smC R h h') : CR h' R S T := by
  obtain ⟨c1, c2, c3, c4, c5, c6⟩ := c
  exact ⟨fun m a q1 q2 => (e.2.1 _).trans (c1 m a q1 q2), fun m g a q1 q2 q3 => (e.2.1 _).trans (c2 m g a q1 q2 q3), fun m q1 => (e.2.1 _).trans (c3 m q1), fun a x q1 q2 => (e.2.1 _).trans (c4 a x q1 q2), fun a x q1 q2 => (e.2.1 _).trans (c5 a x q1 q2), fun w hw => (e.2.1 _).trans (c6 w hw)⟩
theorem clear_o (l : WL h W) : xo (FX7_clear E W h) (fun _ h' => iw (fun a => a = W + 1 ∨ a = W + 4 ∨ a = W + 7 ∨ a = W + 13) h h' ∧ (∀ s, s < 3 → xi h' (W + 1 + 3 * s) 2 = 0) ∧ ∀ w, w < 3 → xi h' (W + 13) w = 0) := by
  unfold FX7_clear
  refine xo_g l.1 (xo_n l.rn (xo_g l.kn (xo_wi (fun h1 e1 => ?_))))
  have i1 : iw (fun a => a = W + 1 ∨ a = W + 4 ∨ a = W + 7 ∨ a = W + 13) h h1 := by rw [e1]; exact iw_yi _ _ _ _ (Or.inl rfl)
  have l1 := WL_iw l i1
  refine xo_g l1.1 (xo_n l1.rm (xo_g l1.km (xo_wi (fun h2 e2 => ?_))))
  have i2 : iw (fun a => a = W + 1 ∨ a = W + 4 ∨ a = W + 7 ∨ a = W + 13) h h2 := by rw [e2]; exact i1.yi _ _ _ (Or.inr (Or.inl rfl))
  have l2 := WL_iw l i2
  refine xo_g l2.1 (xo_n l2.ra (xo_g l2.ka (xo_wi (fun h3 e3 => ?_))))
  have i3 : iw (fun a => a = W + 1 ∨ a = W + 4 ∨ a = W + 7 ∨ a = W + 13) h h3 := by rw [e3]; exact i2.yi _ _ _ (Or.inr (Or.inr (Or.inl rfl)))
  have l3 := WL_iw l i3
  refine xo_g l3.1 (xo_n l3.r13 (xo_b (FJ7_fill_o l3.k13 l3.n13 (by omega)) (fun _ h4 q => ?_)))
  obtain ⟨i4, z4⟩ := q
  refine xo_v ⟨i3.trans i4 (fun a q => q) (fun a q => Or.inr (Or.inr (Or.inr q))), fun s hs => ?_, z4⟩
  rw [i4.i _ (by omega)]
  match s, hs with
  | 0, _ => rw [e_o e3 (Or.inl (by omega)), e_o e2 (Or.inl (by omega))]; exact e_s e1
  | 1, _ => rw [e_o e3 (Or.inl (by omega))]; exact e_s e2
  | 2, _ => exact e_s e3
theorem opposites_o {A n : Nat} {t : Nat → Nat → Nat} {v : Nat → Nat} (l : GL h A) (gt : GT h A n t) (ga : GA n t v) : xo (FX2_findOpposites E A h) (fun _ h' => iw (fun a => a = A + 2) h h' ∧ GV h' A n v) := by
  obtain ⟨t1, t2, t3, t4⟩ := gt
  unfold FX2_findOpposites
  refine xlp_inv (Po := fun m => xo m _) (fun i s h' => s = nI i ∧ iw (fun a => a = A + 2) h h' ∧ ∀ a, a < i → xi h' (A + 2) a = nI (v a)) n (by omega) (fun i s h1 ag hi I again => ?_) ⟨rfl, iw.refl _ _, fun a ha => absurd ha (Nat.not_lt_zero _)⟩
  obtain ⟨rfl, i1, d1⟩ := I
  have l1 := GL.iw l i1
  refine xo_g l1.1 ?_
  rw [(i1.i 3 (show ¬ A = A + 2 by omega)).trans t1]
  by_cases e : i = n
  · subst e
    exact xo_t (Int32.le_refl _) (xo_v ⟨i1, fun a ha => ⟨d1 a ha, ga.iv ha⟩⟩)
  · have hlt : i < n := by omega
    refine xo_f (nI_ge hlt (by omega)) ?_
    refine xlp_inv (Po := fun m => xo m _) (fun j s h' => s = nI j ∧ iw (fun a => a = A + 2) h h' ∧ (∀ a, a < i → xi h' (A + 2) a = nI (v a)) ∧ (v i < j → xi h' (A + 2) i = nI (v i))) n (by omega) (fun j s h2 ag2 hj J again2 => ?_) ⟨rfl, i1, d1, fun q => absurd q (Nat.not_lt_zero _)⟩
    obtain ⟨rfl, i2, d2, b2⟩ := J
    have l2 := GL.iw l i2
    have gt2 : GT h2 A n t := ⟨(i2.i 3 (show ¬ A = A + 2 by omega)).trans t1, t2, t3, fun a b ha hb => ⟨(i2.i _ (show ¬ A + 1 = A + 2 by omega)).trans (t4 a b ha hb).1, (t4 a b ha hb).2⟩⟩
    refine xo_g l2.1 ?_
    rw [gt2.1]
    by_cases e2 : j = n
    · subst e2
      refine xo_t (Int32.le_refl _) ?_
      rw [nI_s]
      refine again hlt _ _ ⟨rfl, i2, fun a ha => ?_⟩
      by_cases z : a = i
      · rw [z]; exact b2 (ga.iv hlt)
      · exact d2 a (by omega)
    · have hlj : j < n := by omega
      refine xo_f (nI_ge hlj (by omega)) (xo_g l2.1 (xo_eb (FX2_product_v l2 gt2 hlt hlj) (xo_jn ?_)))
      have cl := ga.cl hlt hlj
      rw [nI_s]
      by_cases z : t i j = 0
      · have ev := ga.vu hlt hlj z
        refine xo_t (by rw [z]; rfl) (xo_g l2.1 (xo_n l2.2.2.2.2.1 (xo_eb (FX8_put_in l2.2.2.2.2.2.1 l2.2.2.2.2.2.2 (by omega) (by omega)) (again2 hlj _ _ ⟨rfl, i2.yi _ _ _ rfl, fun a ha => ?_, fun _ => ?_⟩))))
        · rw [xi_yi2 _ _ (Or.inr (by omega))]; exact d2 a ha
        · rw [xi_yi1, ev]
      · refine xo_f (by rw [nI_eq0 (by omega)]; exact z) (again2 hlj _ _ ⟨rfl, i2, d2, fun q => b2 ?_⟩)
        have : ¬ v i = j := fun y => z (by rw [← y]; exact ga.ir hlt)
        omega
/-- a world settled holds S and T -/
theorem settle_o (l : WL h W) (n : WN h W) (c : CD h W S T D) (ws : WS S) (wt : WT S T) : xo (FX7_settle E W h) (fun _ h' => iw (fun a => (∃ g, g < 6 ∧ a = W + 14 + 3 * g + 2) ∨ ∃ m, m < 6 ∧ a = W + 32 + 8 * m) h h' ∧ CI h' W S T) := by
  obtain ⟨c1, c2, c3, c4, c5, c6⟩ := c
  have w := ws
  obtain ⟨⟨w1, w2, w3⟩, w4, w5, w6⟩ := w
  unfold FX7_settle
  refine xlp_inv (Po := fun m => xo m _) (fun i s h' => s = nI i ∧ iw (fun a => ∃ g, g < 6 ∧ a = W + 14 + 3 * g + 2) h h' ∧ ∀ g, g < i → GV h' (W + 14 + 3 * g) (sgn S g) (sgv S g)) (sng S) (by omega) (fun i s h1 ag hi I again => ?_) ⟨rfl, iw.refl _ _, fun g hg => absurd hg (Nat.not_lt_zero _)⟩
  obtain ⟨rfl, i1, d1⟩ := I
  have l1 := WL_iw l i1
  have nb1 : ∀ a, (∀ g, g < 6 → ¬ a = W + 14 + 3 * g + 2) → ¬ ∃ g, g < 6 ∧ a = W + 14 + 3 * g + 2 := fun a q z => by
    obtain ⟨g, hg, z⟩ := z
    exact q g hg z
  refine xo_g l1.1 (xo_n l1.rn (xo_g l1.kn (xo_jh (fun h' => h' = h1 ∧ i = sng S) (fun h' z => ?_) (fun j jh => ?_))))
  · obtain ⟨rfl, rfl⟩ := z
    have CMx : ∀ {h9} (i9 : iw (fun a => ∃ m, m < 6 ∧ a = W + 32 + 8 * m) h' h9) {m : Nat}, m < snm S → CM h9 (W + 32 + 8 * m) (W + 14 + 3 * smu S m) (W + 14 + 3 * sml S m) (mdS S T m) := fun {h9} i9 {m} hm => by
      have l9 := WL_iw l1 i9
      obtain ⟨u0, v0⟩ := w5 m hm
      obtain ⟨d1', d2, d3, d4⟩ := c3 m hm
      have i0 : ∀ a j, (∀ g, g < 6 → ¬ a = W + 14 + 3 * g + 2) → (∀ m, m < 6 → ¬ a = W + 32 + 8 * m) → xi h9 a j = xi h a j := fun a j q1 q2 => (i9.i j (fun z => by obtain ⟨m, hm, z⟩ := z; exact q2 m hm z)).trans (i1.i j (nb1 a q1))
      have r0 : ∀ a j, xr h9 a j = xr h a j := fun a j => (i9.r a j).trans (i1.r a j)
      have gtg : ∀ g, g < sng S → GL h9 (W + 14 + 3 * g) ∧ GT h9 (W + 14 + 3 * g) (sgn S g) (sgt S g) ∧ GV h9 (W + 14 + 3 * g) (sgn S g) (sgv S g) := fun g hg => by
        obtain ⟨⟨a1, a2⟩, a3⟩ := w4 g hg
        refine ⟨(l9.2.2.1 g (by omega)).2, ⟨(i0 _ _ (fun g' hg' => by omega) (fun m' hm' => by omega)).trans (c2 g hg).1, a1, a2, fun a b ha hb => ⟨(i0 _ _ (fun g' hg' => by omega) (fun m' hm' => by omega)).trans ((c2 g hg).2 a b ha hb), a3.1 a b ha hb⟩⟩, fun a ha => ⟨(i9.i _ (fun z => by obtain ⟨m, hm, z⟩ := z; omega)).trans (d1 g hg a ha).1, (d1 g hg a ha).2⟩⟩
      exact ⟨(l9.2.2.2.1 m (by omega)).2, ⟨(r0 _ _).trans d1'.1, (r0 _ _).trans d1'.2⟩, gtg _ u0, gtg _ v0, fun a ha => ⟨(i0 _ _ (fun g' hg' => by omega) (fun m' hm' => by omega)).trans (d3 a ha), wt.1 m a hm ha⟩, fun g a hg ha => ⟨(i0 _ _ (fun g' hg' => by omega) (fun m' hm' => by omega)).trans (d4 g a hg ha), wt.2.1 m g a hm hg ha⟩⟩
    refine xlp_inv (Po := fun m => xo m _) (fun i s h9 => s = nI i ∧ iw (fun a => ∃ m, m < 6 ∧ a = W + 32 + 8 * m) h' h9 ∧ (∀ m k, m < 6 → ¬ k = 7 → xi h9 (W + 32 + 8 * m) k = xi h' (W + 32 + 8 * m) k) ∧ ∀ m, m < i → xi h9 (W + 32 + 8 * m) 7 = nI (whS S T m)) (snm S) (by omega) (fun i s h9 ag2 hi2 J again2 => ?_) ⟨rfl, iw.refl _ _, fun _ _ _ _ => rfl, fun m hm => absurd hm (Nat.not_lt_zero _)⟩
    obtain ⟨rfl, i9, o9, d9⟩ := J
    have l9 := WL_iw l1 i9
    have cn : xi h9 (W + 4) 2 = nI (snm S) := (i9.i _ (fun z => by obtain ⟨m, hm, z⟩ := z; omega)).trans ((i1.i _ (nb1 _ (fun g hg => by omega))).trans (c1 1 (by omega)))
    refine xo_g l9.1 (xo_n l9.rm (xo_g l9.km (xo_jh (fun h2 => h2 = h9 ∧ i = snm S) (fun h2 z => ?_) (fun j2 jh2 => ?_))))
    · obtain ⟨rfl, rfl⟩ := z
      have i0 : ∀ a j, (∀ g, g < 6 → ¬ a = W + 14 + 3 * g + 2) → (∀ m, m < 6 → ¬ a = W + 32 + 8 * m ∨ ¬ j = 7) → xi h2 a j = xi h a j := fun a j q1 q2 => by
        by_cases y : ∃ m, m < 6 ∧ a = W + 32 + 8 * m
        · obtain ⟨m, hm, rfl⟩ := y
          have : ¬ j = 7 := by
            rcases q2 m hm with z | z
            · exact absurd rfl z
            · exact z
          exact (o9 m j hm this).trans (i1.i j (nb1 _ q1))
        · exact (i9.i j y).trans (i1.i j (nb1 a q1))
      have r0 : ∀ a j, xr h2 a j = xr h a j := fun a j => (i9.r a j).trans (i1.r a j)
      refine xo_v ⟨i1.trans i9 (fun a q => Or.inl q) (fun a q => Or.inr q), ⟨ws, wt⟩, ⟨⟨l9, fun g hg => (i0 _ _ (fun _ _ => by omega) (fun _ _ => by omega)).trans (n.1 g hg), fun m hm => (i0 _ _ (fun _ _ => by omega) (fun _ _ => Or.inr (by decide))).trans (n.2 m hm)⟩, ⟨(i0 _ _ (fun _ _ => by omega) (fun _ _ => by omega)).trans (c1 0 (by omega)), cn, (i0 _ _ (fun _ _ => by omega) (fun _ _ => by omega)).trans (c1 2 (by omega))⟩, fun g hg => ⟨(i0 _ _ (fun _ _ => by omega) (fun _ _ => by omega)).trans (c2 g hg).1, fun a b ha hb => (i0 _ _ (fun _ _ => by omega) (fun _ _ => by omega)).trans ((c2 g hg).2 a b ha hb), fun a ha => (i9.i _ (fun z => by obtain ⟨m, hm, z⟩ := z; omega)).trans (d1 g hg a ha).1⟩, fun m hm => ⟨(r0 _ _).trans (c3 m hm).1.1, (r0 _ _).trans (c3 m hm).1.2⟩, fun a ha => ⟨(r0 _ _).trans (c4 a ha).1.1, (r0 _ _).trans (c4 a ha).1.2⟩⟩, fun m a q1 q2 => (i0 _ _ (fun _ _ => by omega) (fun _ _ => by omega)).trans ((c3 m q1).2.2.1 a q2), fun m g a q1 q2 q3 => (i0 _ _ (fun _ _ => by omega) (fun _ _ => by omega)).trans ((c3 m q1).2.2.2 g a q2 q3), d9, fun a x q1 q2 => (i0 _ _ (fun _ _ => by omega) (fun _ _ => by omega)).trans ((c4 a q1).2.1 x q2), fun a x q1 q2 => (i0 _ _ (fun _ _ => by omega) (fun _ _ => by omega)).trans ((c4 a q1).2.2 x q2), fun x q1 => (i0 _ _ (fun _ _ => by omega) (fun _ _ => by omega)).trans (c5 x q1)⟩
    · rw [cn]
      by_cases e : i = snm S
      · exact xo_t (by rw [e]; exact Int32.le_refl _) (jh2 _ ⟨rfl, e⟩)
      · have hlt : i < snm S := by omega
        refine xo_f (nI_ge hlt (by omega)) (xo_g l9.1 (xo_n l9.r11 (xo_g l9.k11 ?_)))
        rw [l9.n11]
        have g11 : xk h9 (W + 11) = 16 ∧ xin (nI i) (xn h9 (W + 11)) := ⟨l9.k11, by rw [l9.n11]; exact xin_nI (by omega) (by omega)⟩
        have cm := CMx i9 hlt
        refine xo_f (by rw [ofNat_nI, nI_leP (by omega) (by omega)]; omega) (xo_g l9.1 (xo_n l9.r11 (xo_g g11 (xo_n (l9.m (show i < 6 by omega)) (xo_g l9.1 (xo_n l9.r11 (xo_g g11 (xo_n (l9.m (show i < 6 by omega)) (xo_g cm.k (xo_eb (FX1_firstReason_v cm) (xo_g cm.k ?_)))))))))))
        rw [nI_s]
        refine xo_wi (fun h10 e10 => again2 hlt _ _ ⟨rfl, by rw [e10]; exact i9.yi _ _ _ ⟨i, by omega, rfl⟩, fun m k hm hk => (e_o e10 (Or.inr hk)).trans (o9 m k hm hk), fun m hm => ?_⟩)
        by_cases z : m = i
        · rw [z]; exact e_s e10
        · rw [e_o e10 (Or.inl (by omega))]; exact d9 m (by omega)
  · have cn : xi h1 (W + 1) 2 = nI (sng S) := (i1.i _ (nb1 _ (fun g hg => by omega))).trans (c1 0 (by omega))
    rw [cn]
    by_cases e : i = sng S
    · exact xo_t (by rw [e]; exact Int32.le_refl _) (jh _ ⟨rfl, e⟩)
    · have hlt : i < sng S := by omega
      obtain ⟨⟨a1, a2⟩, a3⟩ := w4 i hlt
      have g10 : xk h1 (W + 10) = 17 ∧ xin (nI i) (xn h1 (W + 10)) := ⟨l1.k10, by rw [l1.n10]; exact xin_nI (by omega) (by omega)⟩
      have gl := (l1.2.2.1 i (by omega)).2
      have gt : GT h1 (W + 14 + 3 * i) (sgn S i) (sgt S i) := ⟨(i1.i _ (nb1 _ (fun g hg => by omega))).trans (c2 i hlt).1, a1, a2, fun a b ha hb => ⟨(i1.i _ (nb1 _ (fun g hg => by omega))).trans ((c2 i hlt).2 a b ha hb), a3.1 a b ha hb⟩⟩
      refine xo_f (nI_ge hlt (by omega)) (xo_g l1.1 (xo_n l1.r10 (xo_g l1.k10 ?_)))
      rw [l1.n10]
      refine xo_f (by rw [ofNat_nI, nI_leP (by omega) (by omega)]; omega) (xo_g l1.1 (xo_n l1.r10 (xo_g g10 (xo_n (l1.g (show i < 6 by omega)) (xo_g gl.1 (xo_b (opposites_o gl gt a3) (fun _ h2 q => ?_)))))))
      obtain ⟨i2, v2⟩ := q
      rw [nI_s]
      refine again hlt _ _ ⟨rfl, i1.trans i2 (fun a q => q) (fun a q => ⟨i, by omega, q⟩), fun g hg => ?_⟩
      by_cases z : g = i
      · rw [z]; exact v2
      · intro a ha
        exact ⟨(i2.i _ (by omega)).trans (d1 g (by omega) a ha).1, (d1 g (by omega) a ha).2⟩
end SMW
