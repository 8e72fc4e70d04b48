/-! The class's pairs: orders, which match. -/
set_option linter.unusedVariables false
/-- the pair of the module at C is reckoned -/
def PR (h : XH) (C : Nat) (d : MD) : Prop := PV h (C + 3) d (dnl d) ∧ (∀ o, o < 9 → xi h (C + 6) o = koS d o) ∧ ∀ o, o < 9 → xi h (C + 7) o = coS d o
theorem PV.iw {h h' : XH} {P i : Nat} {d : MD} {B : Nat → Prop} (p : PV h P d i) (w : iw B h h') (h0 : ¬ B P) (h1 : ¬ B (P + 1)) (h2 : ¬ B (P + 2)) : PV h' P d i :=
  ⟨by rw [w.i _ h0]; exact p.1, fun x hx => by rw [w.i _ h1]; exact p.2.1 x hx, fun a ha => by rw [w.i _ h2]; exact p.2.2 a ha⟩
theorem PR.iw {h h' : XH} {C : Nat} {d : MD} {B : Nat → Prop} (p : PR h C d) (w : iw B h h') (hB : ∀ a, B a → a < C + 3 ∨ C + 7 < a) : PR h' C d :=
  ⟨p.1.iw w (fun q => by have := hB _ q; omega) (fun q => by have := hB _ q; omega) (fun q => by have := hB _ q; omega), fun o ho => by rw [w.i _ (fun q => by have := hB _ q; omega)]; exact p.2.1 o ho, fun o ho => by rw [w.i _ (fun q => by have := hB _ q; omega)]; exact p.2.2 o ho⟩
theorem FX4_addOne_in {E : XG} {a n k : Nat} {h : XH} (hk : xk h a = 12) (hn : xn h a = n) (h1 : k < n) (h2 : n < 2 ^ 31) : FX4_addOne E a (nI k) h = xv () (yi h a k (xi h a k + 1)) := by
  unfold FX4_addOne
  rw [xb_eq (FX8_at_in hk hn h1 h2)]
  rw [xb_eq (FX8_put_in hk hn h1 h2)]
theorem odS_le (t : Nat → Nat → Nat) (a : Nat) : odS t a ≤ 8 ∧ 1 ≤ odS t a := by
  have := fi_le 7 (fun i => pw t a i == 0)
  unfold odS
  omega
theorem cdS_le (d : MD) (a : Nat) : cdS d a ≤ 8 ∧ 1 ≤ cdS d a := by
  have := fi_le 7 (fun i => pw (cpS d) a i == 0)
  unfold cdS
  omega
theorem or_1e (x : Int32) : x + 0 = x := by
  apply Int32.toBitVec_inj.mp
  simp
section PAIR
variable {E : XG} {h : XH} {C U L C' U' L' : Nat} {d d' : MD}
theorem PV.cc (p : PV h (C + 3) d (dnl d)) : xi h (C + 3) 4 = nI (ccN d) := p.1
theorem PV.nm (p : PV h (C + 3) d (dnl d)) (l : LW d) {x : Nat} (hx : x < dnl d) : xi h (C + 4) x = nI (nmS d x) := by
  have := l.l8
  exact (p.2.1 x (by omega)).trans (l.nm hx).1
theorem PV.ls (p : PV h (C + 3) d (dnl d)) {a : Nat} (ha : a < ccN d) : xi h (C + 5) a = nI (lsS d a) := p.2.2 a ha
theorem FX4_product_v (m : CM h C U L d) (l : LW d) (p : PV h (C + 3) d (dnl d)) {a b : Nat} (ha : a < ccN d) (hb : b < ccN d) : FX4_product E (C + 3) L (nI a) (nI b) h = xv (nI (cpS d a b)) h := by
  have h8 := ccN_8 l
  have l8 := l.l8
  have q := l.gl.cl (l.ls ha) (l.ls hb)
  unfold FX4_product
  simp (disch := omega) only [↓xg, ↓reduceIte, ↓xjn_d, ↓xlt_d, eq_self, and_self, and_true, true_and, not_true, not_false_iff, ne_eq, true_or, or_true, or_false, false_or, nI_s, nI_leP, nI_eqP, m.pk, ↓xnn_e (m.p0.1), ↓xnn_e (m.p1.1), ↓xb_eq (FX8_at_in m.p1.2.1 m.p1.2.2 (show a < 8 by omega) (by omega)), ↓xb_eq (FX8_at_in m.p1.2.1 m.p1.2.2 (show b < 8 by omega) (by omega)), p.ls ha, p.ls hb, m.lk, ↓xb_eq (m.pl (l.ls ha) (l.ls hb)), ↓xb_eq (FX8_at_in m.p0.2.1 m.p0.2.2 (show dtl d (lsS d a) (lsS d b) < 8 by omega) (by omega)), p.nm l q]
  rfl
theorem FX4_period_v (m : CM h C U L d) (l : LW d) (p : PV h (C + 3) d (dnl d)) {a : Nat} (ha : a < ccN d) : FX4_period E (C + 3) L (nI a) h = xv (nI (cdS d a)) h := by
  have h8 := ccN_8 l
  have hp : ∀ i, pw (cpS d) a i < ccN d := by
    intro i
    induction i with
    | zero => exact ha
    | succ i ih => exact l.cp_lt ih ha
  unfold FX4_period cdS
  have hm := fi_le 7 (fun i => pw (cpS d) a i == 0)
  refine xlp_all (fun i => (nI (i + 1), nI (pw (cpS d) a i))) (fun _ => h) (fi 7 (fun i => pw (cpS d) a i == 0)) (by omega) (fun i hi ag => ?_) (fun ag => ?_)
  · have h1 := fi_not hi
    have h2 : ¬ pw (cpS d) a i = 0 := by simpa using h1
    have h3 : ¬ 8 ≤ i + 1 := by omega
    have h4 := hp i
    simp (disch := omega) only [↓xg, ↓reduceIte, ↓xjn_d, ↓xlt_d, eq_self, and_self, and_true, true_and, not_true, not_false_iff, ne_eq, true_or, or_true, or_false, false_or, nI_s, nI_leP, nI_eqP, nI_eq0, h2, li8, h3, m.pk, ↓xb_eq (FX4_product_v m l p (hp i) ha)]
    rfl
  · have h4 := hp (fi 7 (fun i => pw (cpS d) a i == 0))
    by_cases e : fi 7 (fun i => pw (cpS d) a i == 0) < 7
    · have h1 := fi_yes e
      have h2 : pw (cpS d) a (fi 7 (fun i => pw (cpS d) a i == 0)) = 0 := by simpa using h1
      simp (disch := omega) only [↓xg, ↓reduceIte, ↓xjn_d, ↓xlt_d, eq_self, and_self, and_true, true_and, not_true, not_false_iff, ne_eq, true_or, or_true, or_false, false_or, nI_s, nI_leP, nI_eqP, nI_eq0, h2, nI_0]
    · have h3 : 8 ≤ fi 7 (fun i => pw (cpS d) a i == 0) + 1 := by omega
      simp (disch := omega) only [↓xg, ↓reduceIte, ↓xjn_d, ↓xlt_d, eq_self, and_self, and_true, true_and, not_true, not_false_iff, ne_eq, true_or, or_true, or_false, false_or, nI_s, nI_leP, nI_eqP, nI_eq0, li8, h3]
      split <;> rfl
abbrev rOrd (C a : Nat) : Prop := a = C + 6 ∨ a = C + 7
theorem FX4_countOrders_o (m : CM h C U L d) (l : LW d) (hU : U + 2 < C) (hL : L + 2 < C) (p : PV h (C + 3) d (dnl d)) : xo (FX4_countOrders E (C + 3) C h) (fun _ h' => iw (rOrd C) h h' ∧ (∀ o, o < 9 → xi h' (C + 6) o = koS d o) ∧ ∀ o, o < 9 → xi h' (C + 7) o = coS d o) := by
  obtain ⟨⟨w1, w2, w3, w4⟩, w5, w6, w7, w8, w9, w10⟩ := m.wd
  have ap : ∀ a, rOrd C a → (a < U ∨ U + 2 < a) ∧ (a < L ∨ L + 2 < a) ∧ a ≠ C + 1 ∧ a ≠ C + 2 := fun a q => by unfold rOrd at q; omega
  have a0 : ∀ {h'}, iw (rOrd C) h h' → PV h' (C + 3) d (dnl d) := fun w => p.iw w (fun q => by unfold rOrd at q; omega) (fun q => by unfold rOrd at q; omega) (fun q => by unfold rOrd at q; omega)
  have h8 := ccN_8 l
  unfold FX4_countOrders
  refine xo_g m.pk (xo_n m.p2.1 (xo_b (FJ7_fill_o m.p2.2.1 m.p2.2.2 (by omega)) (fun _ h2 q2 => ?_)))
  obtain ⟨i2, f2⟩ := q2
  have i2 : iw (rOrd C) h h2 := i2.wide (fun a q => Or.inl q)
  have m2 := m.iw i2 ap
  refine xo_g m2.pk (xo_n m2.p3.1 (xo_b (FJ7_fill_o m2.p3.2.1 m2.p3.2.2 (by omega)) (fun _ h4 q4 => ?_)))
  obtain ⟨i4, f4⟩ := q4
  have f24 : ∀ o, o < 9 → xi h4 (C + 6) o = 0 := fun o ho => by rw [i4.i _ (by omega)]; exact f2 o ho
  have i4 : iw (rOrd C) h h4 := i2.trans i4 (fun _ q => q) (fun a q => Or.inr q)
  refine xlp_inv (Po := fun m => xo m _) (fun i s h' => s = nI i ∧ iw (rOrd C) h h' ∧ (∀ o, o < 9 → xi h' (C + 6) o = sumI (fun a => if dbd d a = 0 ∧ odS (dtu d) a = o then 1 else 0) i) ∧ ∀ o, o < 9 → xi h' (C + 7) o = 0) (dnu d) (by omega) (fun i s h' ag hi I again => ?_) ⟨rfl, i4, f24, f4⟩
  obtain ⟨rfl, iW, r1, r2⟩ := I
  have m3 := m.iw iW ap
  refine xo_g m3.k (xo_n m3.u (xo_g m3.uk ?_))
  rw [m3.un]
  by_cases e : i = dnu d
  · subst e
    refine xo_t (Int32.le_refl _) ?_
    refine xlp_inv (Po := fun m => xo m _) (fun j s h' => s = nI j ∧ iw (rOrd C) h h' ∧ (∀ o, o < 9 → xi h' (C + 6) o = koS d o) ∧ ∀ o, o < 9 → xi h' (C + 7) o = sumI (fun a => if cdS d a = o then 1 else 0) j) (ccN d) (by omega) (fun j s h' ag hj I again => ?_) ⟨rfl, iW, r1, r2⟩
    obtain ⟨rfl, iW, r1, r2⟩ := I
    have m4 := m.iw iW ap
    refine xo_g m4.pk ?_
    rw [(a0 iW).cc]
    by_cases ej : j = ccN d
    · subst ej
      exact xo_t (Int32.le_refl _) (xo_v ⟨iW, r1, r2⟩)
    · have hlt : j < ccN d := by omega
      have q := cdS_le d j
      refine xo_f (nI_ge hlt (by omega)) (xo_g m4.pk (xo_n m4.p3.1 (xo_g m4.k (xo_n m4.l (xo_g m4.pk (xo_eb (FX4_period_v m4 l (a0 iW) hlt) (xo_eb (FX4_addOne_in m4.p3.2.1 m4.p3.2.2 (show cdS d j < 9 by omega) (by omega)) ?_)))))))
      rw [nI_s]
      refine again hlt _ _ ⟨rfl, iW.yi _ _ _ (Or.inr rfl), fun o ho => ?_, fun o ho => ?_⟩
      · rw [xi_yi2 _ _ (Or.inl (by omega))]; exact r1 o ho
      · rw [sumI_s]
        by_cases eo : o = cdS d j
        · subst eo
          rw [xi_yi1, if_pos rfl, r2 _ ho]
        · have eo2 : ¬ cdS d j = o := fun q => eo q.symm
          rw [xi_yi2 _ _ (Or.inr eo), if_neg eo2, r2 o ho, or_1e]
  · have hlt : i < dnu d := by omega
    have q1 := w9 i hlt
    have q := odS_le (dtu d) i
    refine xo_f (nI_ge hlt (by omega)) (xo_g m3.k (xo_eb (m3.bd hlt) (xo_jn ?_)))
    rw [nI_s]
    by_cases e0 : dbd d i = 0
    · refine xo_t (by rw [e0]; rfl) (xo_g m3.pk (xo_n m3.p2.1 (xo_g m3.k (xo_n m3.u (xo_g m3.uk (xo_eb (FX2_period_v m3.2.2.1.1 m3.2.2.1.2.1 hlt) (xo_eb (FX4_addOne_in m3.p2.2.1 m3.p2.2.2 (show odS (dtu d) i < 9 by omega) (by omega)) ?_)))))))
      refine again hlt _ _ ⟨rfl, iW.yi _ _ _ (Or.inl rfl), fun o ho => ?_, fun o ho => ?_⟩
      · rw [sumI_s]
        by_cases eo : o = odS (dtu d) i
        · subst eo
          rw [xi_yi1, if_pos ⟨e0, rfl⟩, r1 _ ho]
        · have eo2 : ¬ (dbd d i = 0 ∧ odS (dtu d) i = o) := fun q => eo q.2.symm
          rw [xi_yi2 _ _ (Or.inr eo), if_neg eo2, r1 o ho, or_1e]
      · rw [xi_yi2 _ _ (Or.inl (by omega))]; exact r2 o ho
    · refine xo_f (by rw [nI_eq0 (by omega)]; exact e0) ?_
      refine again hlt _ _ ⟨rfl, iW, fun o ho => ?_, r2⟩
      rw [sumI_s, if_neg (fun q => e0 q.1), r1 o ho, or_1e]
theorem FX1_freshPair_o (m : CM h C U L d) (l : LW d) (hU : U + 2 < C) (hL : L + 2 < C) : xo (FX1_freshPair E C h) (fun v h' => v = C + 3 ∧ iw (rPairs C) h h' ∧ PR h' C d) := by
  have ap : ∀ a, rPairs C a → (a < U ∨ U + 2 < a) ∧ (a < L ∨ L + 2 < a) ∧ a ≠ C + 1 ∧ a ≠ C + 2 := fun a q => by unfold rPairs at q; omega
  unfold FX1_freshPair
  refine xo_g m.k (xo_n m.pr (xo_g m.pk (xo_b (FX4_sortClasses_o m hU hL) (fun _ h2 q2 => ?_))))
  obtain ⟨i2, p2⟩ := q2
  have i2 : iw (rPairs C) h h2 := i2.wide (fun a q => by unfold rPair at q; unfold rPairs; omega)
  have m2 := m.iw i2 ap
  refine xo_g m2.k (xo_n m2.pr (xo_g m2.pk (xo_b (FX4_countOrders_o m2 l hU hL p2) (fun _ h4 q4 => ?_))))
  obtain ⟨i4, p4, p5⟩ := q4
  have p2' : PV h4 (C + 3) d (dnl d) := p2.iw i4 (fun q => by unfold rOrd at q; omega) (fun q => by unfold rOrd at q; omega) (fun q => by unfold rOrd at q; omega)
  have i4 : iw (rPairs C) h h4 := i2.trans i4 (fun _ q => q) (fun a q => by unfold rOrd at q; unfold rPairs; omega)
  have m4 := m.iw i4 ap
  exact xo_g m4.k (xo_n m4.pr (xo_v ⟨rfl, i4, p2', p4, p5⟩))
theorem FX4_matches_v (m : CM h C U L d) (m' : CM h C' U' L' d') (p : PR h C d) (p' : PR h C' d') : FX4_matches E (C + 3) (C' + 3) h = xv (bI (alS d d')) h := by
  unfold FX4_matches
  refine (xlp_flag (fun i => (0, nI (i + 1))) (fun i => (1, nI (i + 1))) h 8 (fun i => koS d (i + 1) ≠ koS d' (i + 1) ∨ coS d (i + 1) ≠ coS d' (i + 1)) (R1 := xv 0 h) (R2 := xv 1 h) (by omega) (fun i hi ag => ?_) (fun i hi ag => ?_) (fun ag => ?_)).trans ?_
  · have hc : ¬ 8 < i + 1 := by omega
    have e1 := p.2.1 (i + 1) (by omega)
    have e2 := p'.2.1 (i + 1) (by omega)
    have e3 := p.2.2 (i + 1) (by omega)
    have e4 := p'.2.2 (i + 1) (by omega)
    simp (disch := omega) only [↓xg, ↓reduceIte, ↓xjn_d, ↓xlt_d, eq_self, and_self, and_true, true_and, not_true, not_false_iff, ne_eq, true_or, or_true, or_false, false_or, nI_s, nI_leP, nI_eqP, li8, nI_ltP, hc, i1_0, m.pk, m'.pk, ↓xnn_e (m.p2.1), ↓xnn_e (m'.p2.1), ↓xnn_e (m.p3.1), ↓xnn_e (m'.p3.1), ↓xb_eq (FX8_at_in m.p2.2.1 m.p2.2.2 (show i + 1 < 9 by omega) (by omega)), ↓xb_eq (FX8_at_in m'.p2.2.1 m'.p2.2.2 (show i + 1 < 9 by omega) (by omega)), ↓xb_eq (FX8_at_in m.p3.2.1 m.p3.2.2 (show i + 1 < 9 by omega) (by omega)), ↓xb_eq (FX8_at_in m'.p3.2.1 m'.p3.2.2 (show i + 1 < 9 by omega) (by omega)), e1, e2, e3, e4]
    by_cases c1 : koS d (i + 1) = koS d' (i + 1)
    · by_cases c2 : coS d (i + 1) = coS d' (i + 1)
      · simp [c1, c2]
      · simp [c1, c2]
    · simp [c1]
  · by_cases hc : 8 < i + 1
    · simp (disch := omega) only [↓xg, ↓reduceIte, ↓xjn_d, ↓xlt_d, eq_self, and_self, and_true, true_and, not_true, not_false_iff, ne_eq, true_or, or_true, or_false, false_or, nI_s, nI_leP, nI_eqP, li8, nI_ltP, hc]
    · simp (disch := omega) only [↓xg, ↓reduceIte, ↓xjn_d, ↓xlt_d, eq_self, and_self, and_true, true_and, not_true, not_false_iff, ne_eq, true_or, or_true, or_false, false_or, nI_s, nI_leP, nI_eqP, li8, nI_ltP, hc]
  · simp (disch := omega) only [↓xg, ↓reduceIte, ↓xjn_d, ↓xlt_d, eq_self, and_self, and_true, true_and, not_true, not_false_iff, ne_eq, true_or, or_true, or_false, false_or, nI_s, nI_leP, nI_eqP, li8, nI_ltP, i1_0]
    simp
  · unfold alS
    cases anyB 8 _ <;> rfl
end PAIR
