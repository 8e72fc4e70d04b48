/-! The class's object made. -/
set_option linter.unusedVariables false
theorem ygr_lo (h : XH) (n k : Nat) : ∀ i, Lo (xt h) h (ygr h n k i)
  | 0 => Lo_ya h 18 n (Nat.le_refl _)
  | i + 1 => ((ygr_lo h n k i).trans (Lo_ya _ 12 k (by rw [ygr_t]; omega))).trans (Lo_yr _ _ _ _ (Nat.le_refl _))
theorem ygr_f (h : XH) (n k : Nat) : ∀ i, (xk (ygr h n k i) (xt h) = 18 ∧ xn (ygr h n k i) (xt h) = n) ∧ (∀ j, j < i → xr (ygr h n k i) (xt h) j = some (xt h + 1 + j) ∧ xk (ygr h n k i) (xt h + 1 + j) = 12 ∧ xn (ygr h n k i) (xt h + 1 + j) = k) ∧ ((∀ a j, xt h ≤ a → xi h a j = 0) → ∀ a j, xt h ≤ a → xi (ygr h n k i) a j = 0)
  | 0 => ⟨⟨if_pos rfl, if_pos rfl⟩, fun j hj => absurd hj (Nat.not_lt_zero _), fun hz a j ha => by
    show (if a = xt h then 0 else xi h a j) = 0
    split
    · rfl
    · exact hz a j ha⟩
  | i + 1 => by
    obtain ⟨⟨a1, a2⟩, a3, a4⟩ := ygr_f h n k i
    have t := ygr_t h n k i
    have e : ¬ xt h = xt (ygr h n k i) := by omega
    refine ⟨⟨(if_neg e).trans a1, (if_neg e).trans a2⟩, fun j hj => ?_, fun hz a j ha => ?_⟩
    · by_cases c : j = i
      · subst c
        have e2 : xt h + 1 + j = xt (ygr h n k j) := by omega
        refine ⟨?_, if_pos e2, if_pos e2⟩
        rw [e2]
        exact xr_yr1 _ _ _ _
      · have e2 : ¬ xt h + 1 + j = xt (ygr h n k i) := by omega
        obtain ⟨b1, b2, b3⟩ := a3 j (by omega)
        refine ⟨(xr_yr2 _ _ (Or.inr c)).trans ((if_neg e).trans b1), (if_neg e2).trans b2, (if_neg e2).trans b3⟩
    · show (if a = xt (ygr h n k i) then 0 else xi (ygr h n k i) a j) = 0
      split
      · rfl
      · exact a4 hz a j ha
/-- a world stays when a ref is put below it -/
theorem Wf_low {W b k : Nat} {h : XH} {v : Option Nat} (p : Wf W 6 6 8 h) (hb : b < W) : Wf W 6 6 8 (yr h b k v) := by
  obtain ⟨⟨p1, p2⟩, p3, p4, p5, p6⟩ := p
  have e : ∀ a j, W ≤ a → xr (yr h b k v) a j = xr h a j := fun a j q => xr_yr2 _ _ (Or.inl (by omega))
  refine ⟨⟨p1, fun q hq => ?_⟩, fun g hg => ?_, fun m hm => ?_, fun a ha => ?_, p6⟩
  · obtain ⟨z1, z2, z3⟩ := p2 q hq
    exact ⟨(e _ _ (by omega)).trans z1, z2, z3⟩
  · obtain ⟨z1, ⟨g1, g2, g3, g4, g5, g6⟩, z3⟩ := p3 g hg
    exact ⟨(e _ _ (by omega)).trans z1, ⟨g1, (e _ _ (by omega)).trans g2, g3, g4, (e _ _ (by omega)).trans g5, g6⟩, z3⟩
  · obtain ⟨z1, ⟨g1, ⟨g2, g3⟩, ⟨g5, g6⟩, g8, b1, ⟨b2, b3⟩, ⟨b4, b5⟩, ⟨b6, b7⟩, b8, b9⟩, z3⟩ := p4 m hm
    exact ⟨(e _ _ (by omega)).trans z1, ⟨g1, ⟨(e _ _ (by omega)).trans g2, g3⟩, ⟨(e _ _ (by omega)).trans g5, g6⟩, (e _ _ (by omega)).trans g8, b1, ⟨(e _ _ (by omega)).trans b2, b3⟩, ⟨(e _ _ (by omega)).trans b4, b5⟩, ⟨(e _ _ (by omega)).trans b6, b7⟩, (e _ _ (by omega)).trans b8, b9⟩, z3⟩
  · obtain ⟨z1, g1, ⟨g2, g3⟩, g5, g6⟩ := p5 a ha
    exact ⟨(e _ _ (by omega)).trans z1, g1, ⟨(e _ _ (by omega)).trans g2, g3⟩, (e _ _ (by omega)).trans g5, g6⟩
/-- a grid at G -/
def Gd (G n k : Nat) (h : XH) : Prop := (xk h G = 18 ∧ xn h G = n) ∧ ∀ i, i < n → xr h G i = some (G + 1 + i) ∧ xk h (G + 1 + i) = 12 ∧ xn h (G + 1 + i) = k
theorem Gd_lo {G n k m : Nat} {h h' : XH} (p : Gd G n k h) (l : Lo m h h') (q : G + 1 + n ≤ m) : Gd G n k h' := ⟨⟨(l G (by omega)).1.1.trans p.1.1, (l G (by omega)).1.2.trans p.1.2⟩, fun i hi => by
  obtain ⟨a1, a2, a3⟩ := p.2 i hi
  exact ⟨((l G (by omega)).2.2.2 i).trans a1, (l (G + 1 + i) (by omega)).1.1.trans a2, (l (G + 1 + i) (by omega)).1.2.trans a3⟩⟩
theorem Gd_low {G n k b j : Nat} {h : XH} {v : Option Nat} (p : Gd G n k h) (q : b < G) : Gd G n k (yr h b j v) := ⟨p.1, fun i hi => by
  obtain ⟨a1, a2, a3⟩ := p.2 i hi
  exact ⟨(xr_yr2 _ _ (Or.inl (by omega))).trans a1, a2, a3⟩⟩
def qL : List (Nat × Nat) := [(0, 1), (5, 2), (6, 106), (7, 210), (10, 219), (12, 222)]
def qf (i : Nat) : Nat × Nat := qL.getD i (0, 0)
theorem qf_d : ∀ i, i < 6 → ∀ j, j < 6 → ¬ i = j → ¬ (qf i).1 = (qf j).1 := by decide
/-- the class's object, s of its rows laid -/
def Xq (X n s : Nat) (h0 h : XH) : Prop := (xt h = X + n ∧ xk h X = 9 ∧ Lo X h0 h) ∧ (∀ j, xi h X j = if j = 3 then -1 else 0) ∧ (∀ a j, X + n ≤ a → xi h a j = 0) ∧ (∀ i, i < s → xr h X (qf i).1 = some (X + (qf i).2)) ∧ (xk h (X + 1) = 11 ∧ xn h (X + 1) = 900) ∧ (1 < s → Wf (X + 2) 6 6 8 h) ∧ (2 < s → Wf (X + 106) 6 6 8 h) ∧ (3 < s → Gd (X + 210) 8 569 h) ∧ (4 < s → Gd (X + 219) 2 569 h)
theorem Xq_up {X n s n' k v : Nat} {h0 h h' : XH} (p : Xq X n s h0 h) (l : Lo (X + n) h h') (hs : s < 6) (h2 : 2 ≤ n) (hn : (1 < s → 106 ≤ n) ∧ (2 < s → 210 ≤ n) ∧ (3 < s → 219 ≤ n) ∧ (4 < s → 222 ≤ n)) (t : xt h' = X + n') (z : ∀ a j, X + n' ≤ a → xi h' a j = 0) (hk : qf s = (k, v)) (n1 : s = 1 → Wf (X + 2) 6 6 8 h') (n2 : s = 2 → Wf (X + 106) 6 6 8 h') (n3 : s = 3 → Gd (X + 210) 8 569 h') (n4 : s = 4 → Gd (X + 219) 2 569 h') : Xq X n' (s + 1) h0 (yr h' X k (some (X + v))) := by
  obtain ⟨⟨p1, p2, p3⟩, p4, p5, p6, ⟨p7, p8⟩, p9, p10, p11, p12⟩ := p
  obtain ⟨⟨x1, x2⟩, x3, x4, x5⟩ := l X (by omega)
  obtain ⟨⟨y1, y2⟩, -⟩ := l (X + 1) (by omega)
  refine ⟨⟨t, x1.trans p2, (p3.trans (l.less (by omega))).trans (Lo_yr _ _ _ _ (Nat.le_refl _))⟩, fun j => (x3 j).trans (p4 j), z, fun i hi => ?_, ⟨y1.trans p7, y2.trans p8⟩, fun q => ?_, fun q => ?_, fun q => ?_, fun q => ?_⟩
  · by_cases c : i = s
    · rw [c, hk]; exact xr_yr1 _ _ _ _
    · have d := qf_d i (by omega) s hs c
      rw [hk] at d
      rw [xr_yr2 _ _ (Or.inr d), x5]
      exact p6 i (by omega)
  · by_cases c : s = 1
    · exact Wf_low (n1 c) (by omega)
    · exact Wf_low (Wf_lo (p9 (by omega)) l (by have := hn.1 (by omega); omega) (by have := hn.1 (by omega); omega) (Or.inr (by have := hn.1 (by omega); omega)) (Or.inr (by have := hn.1 (by omega); omega))) (by omega)
  · by_cases c : s = 2
    · exact Wf_low (n2 c) (by omega)
    · exact Wf_low (Wf_lo (p10 (by omega)) l (by have := hn.2.1 (by omega); omega) (by have := hn.2.1 (by omega); omega) (Or.inr (by have := hn.2.1 (by omega); omega)) (Or.inr (by have := hn.2.1 (by omega); omega))) (by omega)
  · by_cases c : s = 3
    · exact Gd_low (n3 c) (by omega)
    · exact Gd_low (Gd_lo (p11 (by omega)) l (by have := hn.2.2.1 (by omega); omega)) (by omega)
  · by_cases c : s = 4
    · exact Gd_low (n4 c) (by omega)
    · exact Gd_low (Gd_lo (p12 (by omega)) l (by have := hn.2.2.2 (by omega); omega)) (by omega)
theorem XI_0 {X : Nat} {h0 h : XH} (p : Xq X 223 6 h0 h) (k12 : xk h (X + 222) = 11 ∧ xn h (X + 222) = 71) : XI h X (X + 2) (X + 106) 0 Z0 := by
  obtain ⟨⟨p1, p2, p3⟩, p4, p5, p6, ⟨p7, p8⟩, p9, p10, p11, p12⟩ := p
  have w1 := p9 (by omega)
  obtain ⟨w1a, w1b⟩ := WL_of w1
  obtain ⟨w2a, w2b⟩ := WL_of (p10 (by omega))
  obtain ⟨⟨g1, g2⟩, g3⟩ := p11 (by omega)
  obtain ⟨⟨g4, g5⟩, g6⟩ := p12 (by omega)
  have i0 : ∀ j, ¬ j = 3 → xi h X j = 0 := fun j hj => by rw [p4, if_neg hj]
  have z14 := w1.2.2.2.2
  refine ⟨⟨⟨p2, ⟨p6 0 (by omega), p7, p8⟩, ⟨p6 3 (by omega), g1, g2⟩, g3, ⟨p6 4 (by omega), g4, g5⟩, g6, p6 5 (by omega), k12⟩, p6 1 (by omega), p6 2 (by omega), Or.inl ⟨rfl, rfl⟩, w2a, w2b⟩, ⟨⟨⟨S0_ws, S0_wt⟩, ⟨⟨w1a, w1b⟩, ⟨z14 _ _ (by omega) (by omega), z14 _ _ (by omega) (by omega), z14 _ _ (by omega) (by omega)⟩, fun g hg => absurd hg (Nat.not_lt_zero _), fun g hg => absurd hg (Nat.not_lt_zero _), fun g hg => absurd hg (Nat.not_lt_zero _)⟩, fun m a hm => absurd hm (Nat.not_lt_zero _), fun m g a hm => absurd hm (Nat.not_lt_zero _), fun m hm => absurd hm (Nat.not_lt_zero _), fun m a hm => absurd hm (Nat.not_lt_zero _), fun m a hm => absurd hm (Nat.not_lt_zero _), fun w hw => z14 _ _ (by omega) (by omega)⟩, fun s k hs hk => (S0_sc hk).elim⟩, ⟨i0 _ (by decide), fun i hi => absurd hi (Nat.not_lt_zero _)⟩, ⟨i0 _ (by decide), (by rw [p4, if_pos rfl]; rfl), i0 _ (by decide)⟩, ⟨⟨by omega, i0 _ (by decide), i0 _ (by decide)⟩, fun i hi => absurd hi (Nat.not_lt_zero _)⟩, fun i hi => ⟨by rw [i0 _ (by decide), mb_0]; rfl, fun T e => (by cases e)⟩, i0 _ (by decide), fun i hi => absurd hi (Nat.not_lt_zero _)⟩
theorem FX8_init_o {E : XG} {X : Nat} {h : XH} (ht : xt h = X + 1) (hk : xk h X = 9) (hz : ∀ a j, X ≤ a → xi h a j = 0) : xo (FX8_init E X h) (fun _ h' => xt h' = X + 223 ∧ Lo X h h' ∧ XI h' X (X + 2) (X + 106) 0 Z0 ∧ ∀ a j, X + 223 ≤ a → xi h' a j = 0) := by
  have p0 : Mk X 9 h h [] := Mk_0 ht hk (fun a j ha => hz a j (by omega))
  unfold FX8_init
  refine Mk_s p0 (by decide) (by decide) (fun h1 p1 => xo_g p1.1.2 (xo_lt ?_))
  obtain ⟨⟨t1, k1⟩, l1, r1, z1, e1, -⟩ := p1
  have f1 := r1 (0, 1, 11, 900) (by decide)
  have q2 : Xq X 2 1 h (yi h1 X 3 (-1)) := by
    refine ⟨⟨t1, k1, l1.trans (Lo_yi _ _ _ _ (Nat.le_refl _))⟩, fun j => ?_, fun a j ha => ?_, fun i hi => ?_, f1.2.2, fun q => absurd q (by omega), fun q => absurd q (by omega), fun q => absurd q (by omega), fun q => absurd q (by omega)⟩
    · rw [xi_yi]
      by_cases c : j = 3
      · rw [if_pos ⟨rfl, c⟩, if_pos c]
      · rw [if_neg (fun w => c w.2), if_neg c, e1]; exact hz _ _ (Nat.le_refl _)
    · rw [xi_yi2 _ _ (Or.inl (by omega))]; exact z1 a j (by omega)
    · have : i = 0 := by omega
      subst this
      exact f1.2.1
  generalize yi h1 X 3 (-1) = h2 at q2 ⊢
  obtain ⟨a1, a2, a3⟩ := new_0 (h := h2) 8 (fun a j ha => q2.2.2.1 a j (by have := q2.1.1; omega))
  refine xo_g (by rw [q2.1.2.1]; decide) ?_
  show xo (xb (FX7_init E (xt h2) (ya h2 8 0)) _) _
  refine xo_b (FX7_init_o a1 a2 a3) (fun _ h4 w4 => ?_)
  obtain ⟨w4, l4, t4, z4⟩ := w4
  have l4 : Lo (xt h2) h2 h4 := (Lo_ya h2 8 0 (Nat.le_refl _)).trans l4
  rw [q2.1.1] at w4 l4 t4 z4 ⊢
  refine xo_g ((l4 X (by omega)).1.1.trans q2.1.2.1) (xo_lt ?_)
  have q5 := Xq_up (k := 5) (v := 2) (n' := 106) q2 l4 (by decide) (by decide) (by decide) (by omega) (fun a j ha => z4 a j (by omega)) rfl (fun _ => w4) (fun q => absurd q (by decide)) (fun q => absurd q (by decide)) (fun q => absurd q (by decide))
  generalize yr h4 X 5 (some (X + 2)) = h5 at q5 ⊢
  obtain ⟨a1, a2, a3⟩ := new_0 (h := h5) 8 (fun a j ha => q5.2.2.1 a j (by have := q5.1.1; omega))
  refine xo_g (by rw [q5.1.2.1]; decide) ?_
  show xo (xb (FX7_init E (xt h5) (ya h5 8 0)) _) _
  refine xo_b (FX7_init_o a1 a2 a3) (fun _ h7 w7 => ?_)
  obtain ⟨w7, l7, t7, z7⟩ := w7
  have l7 : Lo (xt h5) h5 h7 := (Lo_ya h5 8 0 (Nat.le_refl _)).trans l7
  rw [q5.1.1] at w7 l7 t7 z7 ⊢
  refine xo_g ((l7 X (by omega)).1.1.trans q5.1.2.1) (xo_lt ?_)
  have q8 := Xq_up (k := 6) (v := 106) (n' := 210) q5 l7 (by decide) (by decide) (by decide) (by omega) (fun a j ha => z7 a j (by omega)) rfl (fun q => absurd q (by decide)) (fun _ => w7) (fun q => absurd q (by decide)) (fun q => absurd q (by decide))
  generalize yr h7 X 6 (some (X + 106)) = h8 at q8 ⊢
  have t8 := q8.1.1
  have gt := ygr_t h8 8 569 8
  have gl := ygr_lo h8 8 569 8
  obtain ⟨gf1, gf2, gf3⟩ := ygr_f h8 8 569 8
  have gf3 := gf3 (fun a j ha => q8.2.2.1 a j (by omega))
  refine xo_g (by rw [q8.1.2.1]; decide) ?_
  show xo (xg (xk (ygr h8 8 569 8) X = 9) <| xlt (yr (ygr h8 8 569 8) X 7 (some (xt h8))) _) _
  generalize ygr h8 8 569 8 = h9 at gt gl gf1 gf2 gf3 ⊢
  rw [t8] at gt gl gf1 gf2 gf3 ⊢
  refine xo_g ((gl X (by omega)).1.1.trans q8.1.2.1) (xo_lt ?_)
  have q10 := Xq_up (k := 7) (v := 210) (n' := 219) q8 gl (by decide) (by decide) (by decide) (by omega) (fun a j ha => gf3 a j (by omega)) rfl (fun q => absurd q (by decide)) (fun q => absurd q (by decide)) (fun _ => ⟨gf1, gf2⟩) (fun q => absurd q (by decide))
  generalize yr h9 X 7 (some (X + 210)) = h10 at q10 ⊢
  have t10 := q10.1.1
  have gt := ygr_t h10 2 569 2
  have gl := ygr_lo h10 2 569 2
  obtain ⟨gf1, gf2, gf3⟩ := ygr_f h10 2 569 2
  have gf3 := gf3 (fun a j ha => q10.2.2.1 a j (by omega))
  refine xo_g (by rw [q10.1.2.1]; decide) ?_
  show xo (xg (xk (ygr h10 2 569 2) X = 9) <| xlt (yr (ygr h10 2 569 2) X 10 (some (xt h10))) _) _
  generalize ygr h10 2 569 2 = h11 at gt gl gf1 gf2 gf3 ⊢
  rw [t10] at gt gl gf1 gf2 gf3 ⊢
  refine xo_g ((gl X (by omega)).1.1.trans q10.1.2.1) (xo_lt ?_)
  have q12 := Xq_up (k := 10) (v := 219) (n' := 222) q10 gl (by decide) (by decide) (by decide) (by omega) (fun a j ha => gf3 a j (by omega)) rfl (fun q => absurd q (by decide)) (fun q => absurd q (by decide)) (fun q => absurd q (by decide)) (fun _ => ⟨gf1, gf2⟩)
  generalize yr h11 X 10 (some (X + 219)) = h12 at q12 ⊢
  have t12 := q12.1.1
  have l13 : Lo (X + 222) h12 (ya h12 11 71) := Lo_ya h12 11 71 (by omega)
  refine xo_g (by rw [q12.1.2.1]; decide) ?_
  show xo (xg (xk (ya h12 11 71) X = 9) <| xlt (yr (ya h12 11 71) X 12 (some (xt h12))) _) _
  refine xo_g ((l13 X (by omega)).1.1.trans q12.1.2.1) (xo_lt ?_)
  rw [t12]
  have q14 := Xq_up (k := 12) (v := 222) (n' := 223) q12 l13 (by decide) (by decide) (by decide) (by show xt h12 + 1 = _; omega) (fun a j ha => by
    show (if a = xt h12 then 0 else xi h12 a j) = 0
    split
    · rfl
    · exact q12.2.2.1 a j (by omega)) rfl (fun q => absurd q (by decide)) (fun q => absurd q (by decide)) (fun q => absurd q (by decide)) (fun q => absurd q (by decide))
  exact xo_v ⟨q14.1.1, q14.1.2.2, XI_0 q14 ⟨if_pos t12.symm, if_pos t12.symm⟩, q14.2.2.1⟩
