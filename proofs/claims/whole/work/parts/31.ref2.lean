/-! The reference's modules: reasons, kernels, classes, orders, which are alike. -/
set_option linter.unusedVariables false
theorem ite_an {α : Type} (p : Bool) (x y : α) (a b : Nat) (h : p = decide (¬ a = b)) : (if a = b then x else y) = if p then y else x := by
  subst h
  by_cases e : a = b
  · simp [e]
  · simp [e]
def yb2 (d : MD) (g : Nat) : Bool := anyB (dnu d) fun a => anyB (dnu d) fun b => (decide (¬ a = b) && decide (dac d g a = dac d g b)) || decide (¬ dac d g (dtu d a b) = dtu d (dac d g a) (dac d g b))
def yb3 (d : MD) : Bool := anyB (dnu d) fun a => decide (¬ dac d 0 a = a) || anyB (dnl d) fun g => anyB (dnl d) fun k => decide (¬ dac d (dtl d g k) a = dac d g (dac d k a))
theorem yb2_eq (d : MD) (g : Nat) : yb2 d g = b2S d g := by
  rw [Bool.eq_iff_iff]
  unfold yb2 b2S
  rw [Bool.or_eq_true, anyB_iff, anyB_iff, anyB_iff]
  constructor
  · rintro ⟨a, ha, h⟩
    obtain ⟨b, hb, h⟩ := anyB_iff.mp h
    rw [Bool.or_eq_true, Bool.and_eq_true, decide_eq_true_eq, decide_eq_true_eq, decide_eq_true_eq] at h
    rcases h with ⟨h1, h2⟩ | h
    · left
      rcases Nat.lt_or_gt_of_ne h1 with q | q
      · exact ⟨b, hb, anyB_iff.mpr ⟨a, q, by simp [h2]⟩⟩
      · exact ⟨a, ha, anyB_iff.mpr ⟨b, q, by simp [h2]⟩⟩
    · right
      exact ⟨a, ha, anyB_iff.mpr ⟨b, hb, by simpa using h⟩⟩
  · rintro (⟨a, ha, h⟩ | ⟨a, ha, h⟩)
    · obtain ⟨b, hb, h⟩ := anyB_iff.mp h
      have h : dac d g b = dac d g a := by simpa using h
      refine ⟨a, ha, anyB_iff.mpr ⟨b, by omega, ?_⟩⟩
      have : ¬ a = b := by omega
      simp [h, this]
    · obtain ⟨b, hb, h⟩ := anyB_iff.mp h
      refine ⟨a, ha, anyB_iff.mpr ⟨b, hb, ?_⟩⟩
      rw [Bool.or_eq_true]
      right
      simpa using h
theorem yb3_eq (d : MD) : yb3 d = b3S d := by
  rw [Bool.eq_iff_iff]
  unfold yb3 b3S
  rw [Bool.or_eq_true, anyB_iff, anyB_iff, anyB_iff]
  constructor
  · rintro ⟨a, ha, h⟩
    rw [Bool.or_eq_true] at h
    rcases h with h | h
    · left
      exact ⟨a, ha, by simpa using h⟩
    · right
      obtain ⟨g, hg, h⟩ := anyB_iff.mp h
      obtain ⟨k, hk, h⟩ := anyB_iff.mp h
      exact ⟨g, hg, anyB_iff.mpr ⟨k, hk, anyB_iff.mpr ⟨a, ha, by simpa using h⟩⟩⟩
  · rintro (⟨a, ha, h⟩ | ⟨g, hg, h⟩)
    · refine ⟨a, ha, ?_⟩
      rw [Bool.or_eq_true]
      left
      simpa using h
    · obtain ⟨k, hk, h⟩ := anyB_iff.mp h
      obtain ⟨a, ha, h⟩ := anyB_iff.mp h
      refine ⟨a, ha, ?_⟩
      rw [Bool.or_eq_true]
      right
      exact anyB_iff.mpr ⟨g, hg, anyB_iff.mpr ⟨k, hk, by simpa using h⟩⟩
theorem img_mb {d : MD} (w : Wd d) (c : Nat) : mb (imgS d) c = anyB (dnu d) fun a => decide (c = dbd d a) := by
  unfold imgS
  rw [mb_orI]
  refine anyB_congr fun a ha => ?_
  have := w.2.2.2.2.2.1 a ha
  have := w.1.2.2.2
  rw [mb_sh (by omega)]
theorem cst_img {d : MD} (w : Wd d) (g x : Nat) : (anyB (dnl d) fun c => mb (imgS d) c && decide (dtl d g c = x)) = cst d g x := by
  rw [Bool.eq_iff_iff, cst_iff, anyB_iff]
  constructor
  · rintro ⟨c, hc, h⟩
    rw [Bool.and_eq_true, img_mb w, anyB_iff, decide_eq_true_eq] at h
    obtain ⟨⟨a, ha, h1⟩, h2⟩ := h
    rw [decide_eq_true_eq] at h1
    exact ⟨a, ha, by rw [← h1]; exact h2⟩
  · rintro ⟨a, ha, h⟩
    refine ⟨dbd d a, w.2.2.2.2.2.1 a ha, ?_⟩
    rw [Bool.and_eq_true, img_mb w, anyB_iff, decide_eq_true_eq]
    exact ⟨⟨a, ha, by simp⟩, h⟩
theorem alS_refl (d : MD) : alS d d = true := by
  unfold alS
  rw [anyB_f.mpr (fun i hi => by simp)]
  rfl
abbrev rCl (Y a : Nat) : Prop := a = Y + 21 ∨ a = Y + 22
/-- the classes lie in the reference's rows -/
def YC (h : XH) (Y : Nat) (d : MD) : Prop := (∀ x, x < dnl d → xi h (Y + 22) x = nI (nmS d x)) ∧ ∀ a, a < ccN d → xi h (Y + 21) a = nI (lsS d a)
section YMS
variable {E : XG} {h : XH} {Y m u l : Nat} {d : MD}
theorem YG.iw {h h' : XH} {Y g n : Nat} {t : Nat → Nat → Nat} {B : Nat → Prop} (G : YG h Y g n t) (w : iw B h h') (hB : ∀ a, B a → a < Y + 1 ∨ Y + 2 < a) : YG h' Y g n t :=
  ⟨G.1, by rw [w.i _ (fun q => by have := hB _ q; omega)]; exact G.2.1, G.2.2.1, G.2.2.2.1, fun a b ha hb => by rw [w.i _ (fun q => by have := hB _ q; omega)]; exact G.2.2.2.2 a b ha hb⟩
theorem YM.iw {h h' : XH} {B : Nat → Prop} (M : YM h Y m u l d) (w : iw B h h') (hB : ∀ a, B a → a < Y + 1 ∨ Y + 8 < a) : YM h' Y m u l d := by
  refine ⟨⟨M.1.1.iw w, M.1.2⟩, ⟨?_, ?_⟩, ⟨M.2.2.1.1.iw w (fun a q => by have := hB a q; omega), M.2.2.1.2.iw w (fun a q => by have := hB a q; omega)⟩, fun a ha => ?_, fun g a hg ha => ?_⟩
  · rw [w.i _ (fun q => by have := hB _ q; omega)]; exact M.2.1.1
  · rw [w.i _ (fun q => by have := hB _ q; omega)]; exact M.2.1.2
  · rw [w.i _ (fun q => by have := hB _ q; omega)]; exact M.2.2.2.1 a ha
  · rw [w.i _ (fun q => by have := hB _ q; omega)]; exact M.2.2.2.2 g a hg ha
theorem FX9_bP (M : YM h Y m u l d) (gd : GD d) : FX9_breaksProducts E Y (nI m) h = xv (bI (b1S d)) h := by
  obtain ⟨⟨w1, w2, w3, w4⟩, w5, w6, w7, w8, w9, w10⟩ := M.wd gd
  have y := M.y
  unfold FX9_breaksProducts
  refine (xlp_any (fun i => nI i) h (dnu d) (fun i => anyB (dnu d) fun k => dbd d (dtu d i k) != dtl d (dbd d i) (dbd d k)) (R1 := xv 1 h) (R2 := xv 0 h) (by omega) (fun i hi ag => ?_) (fun ag => ?_)).trans ?_
  · have hc : ¬ dnu d ≤ i := by omega
    (try dsimp only); (rw [xg_t (y.1), xb_eq (FX9_uppers_v M), if_neg (nI_ge hi (by omega))])
    refine xlp_any (fun i => nI i) h (dnu d) (fun k => dbd d (dtu d i k) != dtl d (dbd d i) (dbd d k)) (by omega) (fun k hk ag' => ?_) (fun ag' => ?_)
    · have hc2 : ¬ dnu d ≤ k := by omega
      have q1 := w5 i k hi hk
      have q2 := w9 _ q1
      have q3 := w9 i hi
      have q4 := w9 k hk
      have q5 := w7 _ _ q3 q4
      simp (disch := omega) only [↓xg, ↓reduceIte, ↓xjn_d, ↓xlt_d, eq_self, and_self, and_true, true_and, not_true, not_false_iff, ne_eq, true_or, or_true, or_false, false_or, nI_s, nI_leP, nI_eqP, y.1, ↓xb_eq (FX9_uppers_v M), hc2, ↓xb_eq (FX9_up_v M hi hk), ↓xb_eq (FX9_boundaryOf_v M q1), ↓xb_eq (FX9_boundaryOf_v M hi), ↓xb_eq (FX9_boundaryOf_v M hk), ↓xb_eq (FX9_down_v M q3 q4), ite_bne]
    · simp (disch := omega) only [↓xg, ↓reduceIte, ↓xjn_d, ↓xlt_d, eq_self, and_self, and_true, true_and, not_true, not_false_iff, ne_eq, true_or, or_true, or_false, false_or, nI_s, nI_leP, nI_eqP, y.1, ↓xb_eq (FX9_uppers_v M), Int32.le_refl]
  · simp (disch := omega) only [↓xg, ↓reduceIte, ↓xjn_d, ↓xlt_d, eq_self, and_self, and_true, true_and, not_true, not_false_iff, ne_eq, true_or, or_true, or_false, false_or, nI_s, nI_leP, nI_eqP, y.1, ↓xb_eq (FX9_uppers_v M), Int32.le_refl]
  · unfold b1S; cases anyB (dnu d) _ <;> rfl
theorem FX9_bM (M : YM h Y m u l d) (gd : GD d) : FX9_breaksMaps E Y (nI m) h = xv (bI (anyB (dnl d) (b2S d))) h := by
  obtain ⟨⟨w1, w2, w3, w4⟩, w5, w6, w7, w8, w9, w10⟩ := M.wd gd
  have y := M.y
  rw [anyB_congr (fun g hg => (yb2_eq d g).symm)]
  unfold FX9_breaksMaps
  refine (xlp_any (fun i => nI i) h (dnl d) (yb2 d) (R1 := xv 1 h) (R2 := xv 0 h) (by omega) (fun g hg ag => ?_) (fun ag => ?_)).trans ?_
  · have hc : ¬ dnl d ≤ g := by omega
    (try dsimp only); (rw [xg_t (y.1), xb_eq (FX9_lowers_v M), if_neg (nI_ge hg (by omega))])
    refine xlp_any (fun i => nI i) h (dnu d) (fun a => anyB (dnu d) fun b => (decide (¬ a = b) && decide (dac d g a = dac d g b)) || decide (¬ dac d g (dtu d a b) = dtu d (dac d g a) (dac d g b))) (by omega) (fun a ha ag' => ?_) (fun ag' => ?_)
    · (try dsimp only); (rw [xg_t (y.1), xb_eq (FX9_uppers_v M), if_neg (nI_ge ha (by omega))])
      refine xlp_any (fun i => nI i) h (dnu d) (fun b => (decide (¬ a = b) && decide (dac d g a = dac d g b)) || decide (¬ dac d g (dtu d a b) = dtu d (dac d g a) (dac d g b))) (by omega) (fun b hb ag2 => ?_) (fun ag2 => ?_)
      · have hc2 : ¬ dnu d ≤ b := by omega
        have q1 := w5 a b ha hb
        have q2 := w10 g _ hg q1
        have q3 := w10 g a hg ha
        have q4 := w10 g b hg hb
        have q5 := w5 _ _ q3 q4
        by_cases c1 : a = b
        · simp (disch := omega) only [↓xg, ↓reduceIte, ↓xjn_d, ↓xlt_d, eq_self, and_self, and_true, true_and, not_true, not_false_iff, ne_eq, true_or, or_true, or_false, false_or, nI_s, nI_leP, nI_eqP, y.1, ↓xb_eq (FX9_uppers_v M), hc2, c1]
          subst c1
          simp (disch := omega) only [↓xg, ↓reduceIte, ↓xjn_d, ↓xlt_d, eq_self, and_self, and_true, true_and, not_true, not_false_iff, ne_eq, true_or, or_true, or_false, false_or, nI_s, nI_leP, nI_eqP, y.1, ↓xb_eq (FX9_up_v M ha hb), ↓xb_eq (FX9_on_v M hg q1), ↓xb_eq (FX9_on_v M hg ha), ↓xb_eq (FX9_up_v M q3 q3)]
          by_cases c2 : dac d g (dtu d a a) = dtu d (dac d g a) (dac d g a) <;> simp [c2]
        · by_cases c3 : dac d g a = dac d g b
          · simp (disch := omega) only [↓xg, ↓reduceIte, ↓xjn_d, ↓xlt_d, eq_self, and_self, and_true, true_and, not_true, not_false_iff, ne_eq, true_or, or_true, or_false, false_or, nI_s, nI_leP, nI_eqP, y.1, ↓xb_eq (FX9_uppers_v M), hc2, c1, ↓xb_eq (FX9_on_v M hg ha), ↓xb_eq (FX9_on_v M hg hb), c3]
            simp [c1, i1_0]
          · simp (disch := omega) only [↓xg, ↓reduceIte, ↓xjn_d, ↓xlt_d, eq_self, and_self, and_true, true_and, not_true, not_false_iff, ne_eq, true_or, or_true, or_false, false_or, nI_s, nI_leP, nI_eqP, y.1, ↓xb_eq (FX9_uppers_v M), hc2, c1, ↓xb_eq (FX9_on_v M hg ha), ↓xb_eq (FX9_on_v M hg hb), c3, ↓xb_eq (FX9_up_v M ha hb), ↓xb_eq (FX9_on_v M hg q1), ↓xb_eq (FX9_up_v M q3 q4)]
            by_cases c2 : dac d g (dtu d a b) = dtu d (dac d g a) (dac d g b) <;> simp [c2, c3, i1_0]
      · simp (disch := omega) only [↓xg, ↓reduceIte, ↓xjn_d, ↓xlt_d, eq_self, and_self, and_true, true_and, not_true, not_false_iff, ne_eq, true_or, or_true, or_false, false_or, nI_s, nI_leP, nI_eqP, y.1, ↓xb_eq (FX9_uppers_v M), Int32.le_refl]
    · simp (disch := omega) only [↓xg, ↓reduceIte, ↓xjn_d, ↓xlt_d, eq_self, and_self, and_true, true_and, not_true, not_false_iff, ne_eq, true_or, or_true, or_false, false_or, nI_s, nI_leP, nI_eqP, y.1, ↓xb_eq (FX9_uppers_v M), Int32.le_refl]
  · simp (disch := omega) only [↓xg, ↓reduceIte, ↓xjn_d, ↓xlt_d, eq_self, and_self, and_true, true_and, not_true, not_false_iff, ne_eq, true_or, or_true, or_false, false_or, nI_s, nI_leP, nI_eqP, y.1, ↓xb_eq (FX9_lowers_v M), Int32.le_refl]
  · cases anyB (dnl d) _ <;> rfl
theorem FX9_bA (M : YM h Y m u l d) (gd : GD d) : FX9_breaksActions E Y (nI m) h = xv (bI (b3S d)) h := by
  obtain ⟨⟨w1, w2, w3, w4⟩, w5, w6, w7, w8, w9, w10⟩ := M.wd gd
  have y := M.y
  rw [← yb3_eq d]
  unfold FX9_breaksActions
  refine (xlp_any (fun i => nI i) h (dnu d) (fun a => decide (¬ dac d 0 a = a) || anyB (dnl d) fun g => anyB (dnl d) fun k => decide (¬ dac d (dtl d g k) a = dac d g (dac d k a))) (R1 := xv 1 h) (R2 := xv 0 h) (by omega) (fun a ha ag => ?_) (fun ag => ?_)).trans ?_
  · have e0 := FX9_on_v (E := E) M w3 ha
    rw [nI_0] at e0
    have q := w10 0 a w3 ha
    (try dsimp only); (rw [xg_t (y.1), xb_eq (FX9_uppers_v M), if_neg (nI_ge ha (by omega)), xg_t (y.1), xb_eq (e0)])
    by_cases c0 : dac d 0 a = a
    · rw [if_pos (show nI (dac d 0 a) = nI a by rw [c0])]
      have e1 : (decide (¬ dac d 0 a = a)) = false := by simp [c0]
      rw [e1, Bool.false_or]
      refine xlp_any (fun i => nI i) h (dnl d) (fun g => anyB (dnl d) fun k => decide (¬ dac d (dtl d g k) a = dac d g (dac d k a))) (by omega) (fun g hg ag' => ?_) (fun ag' => ?_)
      · (try dsimp only); (rw [xg_t (y.1), xb_eq (FX9_lowers_v M), if_neg (nI_ge hg (by omega))])
        refine xlp_any (fun i => nI i) h (dnl d) (fun k => decide (¬ dac d (dtl d g k) a = dac d g (dac d k a))) (by omega) (fun k hk ag2 => ?_) (fun ag2 => ?_)
        · have hc2 : ¬ dnl d ≤ k := by omega
          have q1 := w7 g k hg hk
          have q2 := w10 _ a q1 ha
          have q3 := w10 k a hk ha
          have q4 := w10 g _ hg q3
          simp (disch := omega) only [↓xg, ↓reduceIte, ↓xjn_d, ↓xlt_d, eq_self, and_self, and_true, true_and, not_true, not_false_iff, ne_eq, true_or, or_true, or_false, false_or, nI_s, nI_leP, nI_eqP, y.1, ↓xb_eq (FX9_lowers_v M), hc2, ↓xb_eq (FX9_down_v M hg hk), ↓xb_eq (FX9_on_v M q1 ha), ↓xb_eq (FX9_on_v M hk ha), ↓xb_eq (FX9_on_v M hg q3)]
          by_cases c2 : dac d (dtl d g k) a = dac d g (dac d k a) <;> simp [c2]
        · simp (disch := omega) only [↓xg, ↓reduceIte, ↓xjn_d, ↓xlt_d, eq_self, and_self, and_true, true_and, not_true, not_false_iff, ne_eq, true_or, or_true, or_false, false_or, nI_s, nI_leP, nI_eqP, y.1, ↓xb_eq (FX9_lowers_v M), Int32.le_refl]
      · simp (disch := omega) only [↓xg, ↓reduceIte, ↓xjn_d, ↓xlt_d, eq_self, and_self, and_true, true_and, not_true, not_false_iff, ne_eq, true_or, or_true, or_false, false_or, nI_s, nI_leP, nI_eqP, y.1, ↓xb_eq (FX9_lowers_v M), Int32.le_refl]
    · rw [if_neg (show ¬ nI (dac d 0 a) = nI a by rw [nI_eqP (by omega) (by omega)]; exact c0)]
      have e1 : (decide (¬ dac d 0 a = a)) = true := by simp [c0]
      rw [e1, Bool.true_or, if_pos rfl, xg_t (Or.inr rfl)]
  · simp (disch := omega) only [↓xg, ↓reduceIte, ↓xjn_d, ↓xlt_d, eq_self, and_self, and_true, true_and, not_true, not_false_iff, ne_eq, true_or, or_true, or_false, false_or, nI_s, nI_leP, nI_eqP, y.1, ↓xb_eq (FX9_uppers_v M), Int32.le_refl]
  · unfold yb3; cases anyB (dnu d) _ <;> rfl
theorem FX9_bB (M : YM h Y m u l d) (gd : GD d) : FX9_breaksBoundaries E Y (nI m) h = xv (bI (b4S d)) h := by
  obtain ⟨⟨w1, w2, w3, w4⟩, w5, w6, w7, w8, w9, w10⟩ := M.wd gd
  have y := M.y
  have h6 := M.1.2
  unfold FX9_breaksBoundaries
  refine (xlp_any (fun i => nI i) h (dnl d) (fun g => anyB (dnu d) fun a => dbd d (dac d g a) != dtl d (dtl d g (dbd d a)) (dvl d g)) (R1 := xv 1 h) (R2 := xv 0 h) (by omega) (fun g hg ag => ?_) (fun ag => ?_)).trans ?_
  · (try dsimp only); (rw [xg_t (y.1), xb_eq (FX9_lowers_v M), if_neg (nI_ge hg (by omega))])
    refine xlp_any (fun i => nI i) h (dnu d) (fun a => dbd d (dac d g a) != dtl d (dtl d g (dbd d a)) (dvl d g)) (by omega) (fun a ha ag' => ?_) (fun ag' => ?_)
    · have hc2 : ¬ dnu d ≤ a := by omega
      have q1 := w10 g a hg ha
      have q2 := w9 _ q1
      have q3 := w9 a ha
      have q5 := w7 _ _ (w7 g _ hg q3) (w8 g hg)
      simp (disch := omega) only [↓xg, ↓reduceIte, ↓xjn_d, ↓xlt_d, eq_self, and_self, and_true, true_and, not_true, not_false_iff, ne_eq, true_or, or_true, or_false, false_or, nI_s, nI_leP, nI_eqP, y.1, ↓xb_eq (FX9_uppers_v M), hc2, ↓xnn_e (y.r4), y.k4, y.n4, xin_t, xz_nI, M.2.1.2, ↓xb_eq (FX9_on_v M hg ha), ↓xb_eq (FX9_boundaryOf_v M q1), ↓xb_eq (FX9_boundaryOf_v M ha), ↓xb_eq (FX9_conjugateOf_v y M.2.2.1.2 gd.2 hg q3), ite_bne]
    · simp (disch := omega) only [↓xg, ↓reduceIte, ↓xjn_d, ↓xlt_d, eq_self, and_self, and_true, true_and, not_true, not_false_iff, ne_eq, true_or, or_true, or_false, false_or, nI_s, nI_leP, nI_eqP, y.1, ↓xb_eq (FX9_uppers_v M), Int32.le_refl]
  · simp (disch := omega) only [↓xg, ↓reduceIte, ↓xjn_d, ↓xlt_d, eq_self, and_self, and_true, true_and, not_true, not_false_iff, ne_eq, true_or, or_true, or_false, false_or, nI_s, nI_leP, nI_eqP, y.1, ↓xb_eq (FX9_lowers_v M), Int32.le_refl]
  · unfold b4S; cases anyB (dnl d) _ <;> rfl
theorem FX9_bC (M : YM h Y m u l d) (gd : GD d) : FX9_breaksConjugates E Y (nI m) h = xv (bI (b5S d)) h := by
  obtain ⟨⟨w1, w2, w3, w4⟩, w5, w6, w7, w8, w9, w10⟩ := M.wd gd
  have y := M.y
  have h6 := M.1.2
  unfold FX9_breaksConjugates
  refine (xlp_any (fun i => nI i) h (dnu d) (fun a => anyB (dnu d) fun k => dac d (dbd d a) k != dtu d (dtu d a k) (dvu d a)) (R1 := xv 1 h) (R2 := xv 0 h) (by omega) (fun a ha ag => ?_) (fun ag => ?_)).trans ?_
  · (try dsimp only); (rw [xg_t (y.1), xb_eq (FX9_uppers_v M), if_neg (nI_ge ha (by omega))])
    refine xlp_any (fun i => nI i) h (dnu d) (fun k => dac d (dbd d a) k != dtu d (dtu d a k) (dvu d a)) (by omega) (fun k hk ag' => ?_) (fun ag' => ?_)
    · have hc2 : ¬ dnu d ≤ k := by omega
      have q1 := w9 a ha
      have q2 := w10 _ k q1 hk
      have q5 := w5 _ _ (w5 a k ha hk) (w6 a ha)
      simp (disch := omega) only [↓xg, ↓reduceIte, ↓xjn_d, ↓xlt_d, eq_self, and_self, and_true, true_and, not_true, not_false_iff, ne_eq, true_or, or_true, or_false, false_or, nI_s, nI_leP, nI_eqP, y.1, ↓xb_eq (FX9_uppers_v M), hc2, ↓xnn_e (y.r3), y.k3, y.n3, xin_t, xz_nI, M.2.1.1, ↓xb_eq (FX9_boundaryOf_v M ha), ↓xb_eq (FX9_on_v M q1 hk), ↓xb_eq (FX9_conjugateOf_v y M.2.2.1.1 gd.1 ha hk), ite_bne]
    · simp (disch := omega) only [↓xg, ↓reduceIte, ↓xjn_d, ↓xlt_d, eq_self, and_self, and_true, true_and, not_true, not_false_iff, ne_eq, true_or, or_true, or_false, false_or, nI_s, nI_leP, nI_eqP, y.1, ↓xb_eq (FX9_uppers_v M), Int32.le_refl]
  · simp (disch := omega) only [↓xg, ↓reduceIte, ↓xjn_d, ↓xlt_d, eq_self, and_self, and_true, true_and, not_true, not_false_iff, ne_eq, true_or, or_true, or_false, false_or, nI_s, nI_leP, nI_eqP, y.1, ↓xb_eq (FX9_uppers_v M), Int32.le_refl]
  · unfold b5S; cases anyB (dnu d) _ <;> rfl
theorem FX9_whyOf_v (M : YM h Y m u l d) (gd : GD d) : FX9_whyOf E Y (nI m) h = xv (nI (whyS d)) h := by
  have y := M.y
  unfold FX9_whyOf whyS
  simp (disch := omega) only [↓xg, ↓reduceIte, ↓xjn_d, ↓xlt_d, eq_self, and_self, and_true, true_and, not_true, not_false_iff, ne_eq, true_or, or_true, or_false, false_or, nI_s, nI_leP, nI_eqP, y.1, ↓xb_eq (FX9_bP M gd), ↓xb_eq (FX9_bM M gd), ↓xb_eq (FX9_bA M gd), ↓xb_eq (FX9_bB M gd), ↓xb_eq (FX9_bC M gd), bI_eq0]
  cases b1S d
  · cases anyB (dnl d) (b2S d)
    · cases b3S d
      · cases b4S d
        · cases b5S d <;> rfl
        · rfl
      · rfl
    · rfl
  · rfl
theorem FX9_kernelOf_v (M : YM h Y m u l d) (gd : GD d) : FX9_kernelOf E Y (nI m) h = xv (kerS d) h := by
  obtain ⟨⟨w1, w2, w3, w4⟩, w5, w6, w7, w8, w9, w10⟩ := M.wd gd
  have y := M.y
  unfold FX9_kernelOf
  refine xlp_all (fun i => (orI (fun a => if dbd d a = 0 then sh a else 0) i, nI i)) (fun _ => h) (dnu d) (by omega) (fun a ha ag => ?_) (fun ag => ?_)
  · have hc : ¬ dnu d ≤ a := by omega
    have q := w9 a ha
    simp (disch := omega) only [↓xg, ↓reduceIte, ↓xjn_d, ↓xlt_d, eq_self, and_self, and_true, true_and, not_true, not_false_iff, ne_eq, true_or, or_true, or_false, false_or, nI_s, nI_leP, nI_eqP, y.1, ↓xb_eq (FX9_uppers_v M), hc, ↓xb_eq (FX9_boundaryOf_v M ha), nI_eq0, sh_d, orI_s, xlt_d]
    split <;> rfl
  · simp (disch := omega) only [↓xg, ↓reduceIte, ↓xjn_d, ↓xlt_d, eq_self, and_self, and_true, true_and, not_true, not_false_iff, ne_eq, true_or, or_true, or_false, false_or, nI_s, nI_leP, nI_eqP, y.1, ↓xb_eq (FX9_uppers_v M), Int32.le_refl]
    rfl
theorem FX9_imageOf_v (M : YM h Y m u l d) (gd : GD d) : FX9_imageOf E Y (nI m) h = xv (imgS d) h := by
  obtain ⟨⟨w1, w2, w3, w4⟩, w5, w6, w7, w8, w9, w10⟩ := M.wd gd
  have y := M.y
  unfold FX9_imageOf
  refine xlp_all (fun i => (orI (fun a => sh (dbd d a)) i, nI i)) (fun _ => h) (dnu d) (by omega) (fun a ha ag => ?_) (fun ag => ?_)
  · have hc : ¬ dnu d ≤ a := by omega
    simp (disch := omega) only [↓xg, ↓reduceIte, ↓xjn_d, ↓xlt_d, eq_self, and_self, and_true, true_and, not_true, not_false_iff, ne_eq, true_or, or_true, or_false, false_or, nI_s, nI_leP, nI_eqP, y.1, ↓xb_eq (FX9_uppers_v M), hc, ↓xb_eq (FX9_boundaryOf_v M ha), sh_d, orI_s, xlt_d]
  · simp (disch := omega) only [↓xg, ↓reduceIte, ↓xjn_d, ↓xlt_d, eq_self, and_self, and_true, true_and, not_true, not_false_iff, ne_eq, true_or, or_true, or_false, false_or, nI_s, nI_leP, nI_eqP, y.1, ↓xb_eq (FX9_uppers_v M), Int32.le_refl]
    rfl
theorem FX9_laysClasses_o (M : YM h Y m u l d) (L : LW d) : xo (FX9_laysClasses E Y (nI m) h) (fun v h' => v = nI (ccN d) ∧ iw (rCl Y) h h' ∧ YC h' Y d) := by
  obtain ⟨⟨w1, w2, w3, w4⟩, w5, w6, w7, w8, w9, w10⟩ := L.w
  have gd := L.2.1
  have y := M.y
  have ap : ∀ a, rCl Y a → a < Y + 1 ∨ Y + 8 < a := fun a q => by unfold rCl at q; omega
  unfold FX9_laysClasses
  refine xo_g y.1 (xo_eb (FX9_imageOf_v M gd) ?_)
  refine xlp_inv (Po := fun m => xo m _) (fun i s h' => ∃ met, s = (nI (clF d i).1, met, nI i) ∧ iw (rCl Y) h h' ∧ (∀ x, x < 8 → mb met x = decide (¬ (clF d i).2.1 x = -1)) ∧ (∀ x, x < 8 → ¬ (clF d i).2.1 x = -1 → xi h' (Y + 22) x = (clF d i).2.1 x) ∧ ∀ a, a < (clF d i).1 → xi h' (Y + 21) a = nI ((clF d i).2.2 a)) (dnl d) (by omega) (fun i s h' ag hi I again => ?_) ⟨0, rfl, iw.refl _ _, fun x hx => ?_, fun x hx q => absurd rfl q, fun a ha => absurd ha (Nat.not_lt_zero _)⟩
  · obtain ⟨met, rfl, iW, r1, r2, r3⟩ := I
    have M3 := M.iw iW ap
    have y3 := M3.y
    have hle := clF_le d i
    refine xo_g y3.1 (xo_eb (FX9_lowers_v M3) ?_)
    by_cases e : i = dnl d
    · subst e
      refine xo_t (Int32.le_refl _) (xo_v ⟨rfl, iW, fun x hx => ?_, r3⟩)
      have q := L.nm hx
      rw [r2 x (by omega) (by rw [q.1]; exact nI_ng1 (by have := q.2.1; have := ccN_8 L; omega)), q.1]
    · have hlt : i < dnl d := by omega
      refine xo_f (nI_ge hlt (by omega)) (xo_eb (FX9_has_v met (show i < 32 by omega)) (xo_jn ?_))
      rw [r1 i (by omega)]
      by_cases e1 : (clF d i).2.1 i = -1
      · refine xo_t (by simp [e1, bI]) (xo_g y3.1 (xo_n y3.r21 (xo_g ⟨y3.k21, by rw [y3.n21]; exact xin_nI (by omega) (by omega)⟩ (xo_lt ?_))))
        rw [xz_nI (by omega)]
        have i4 := iW.yi (Y + 21) (clF d i).1 (nI i) (Or.inl rfl)
        refine xlp_inv (Po := fun m => xo m _) (fun j s h' => ∃ me, s = (me, nI j) ∧ iw (rCl Y) h h' ∧ (∀ x, x < 8 → mb me x = (mb met x || anyB j fun c => mb (imgS d) c && decide (dtl d i c = x))) ∧ (∀ x, x < 8 → (anyB j fun c => mb (imgS d) c && decide (dtl d i c = x)) = true → xi h' (Y + 22) x = nI (clF d i).1) ∧ (∀ x, x < 8 → (anyB j fun c => mb (imgS d) c && decide (dtl d i c = x)) = false → ¬ (clF d i).2.1 x = -1 → xi h' (Y + 22) x = (clF d i).2.1 x) ∧ ∀ a, a < (clF d i).1 + 1 → xi h' (Y + 21) a = nI (if a = (clF d i).1 then i else (clF d i).2.2 a)) (dnl d) (by omega) (fun j s h' ag' hj I again' => ?_) ⟨met, rfl, i4, fun x hx => ?_, fun x hx q => ?_, fun x hx _ q => ?_, fun a ha => ?_⟩
        · obtain ⟨me, rfl, iW, s1, s2, s3, s4⟩ := I
          have M4 := M.iw iW ap
          have y4 := M4.y
          refine xo_g y4.1 (xo_eb (FX9_lowers_v M4) ?_)
          by_cases ej : j = dnl d
          · subst ej
            refine xo_t (Int32.le_refl _) ?_
            dsimp only
            rw [nI_s, nI_s]
            refine again hlt _ _ ⟨me, ?_, iW, ?_⟩
            · rw [clF_s, if_pos e1]
            · rw [clF_s, if_pos e1]
              refine ⟨fun x hx => ?_, fun x hx q => ?_, s4⟩
              · rw [s1 x hx, cst_img L.w, r1 x hx]
                show _ = decide (¬ (if cst d i x then nI (clF d i).1 else (clF d i).2.1 x) = -1)
                cases cst d i x
                · simp
                · have := nI_ng1 (a := (clF d i).1) (by omega)
                  simp [this]
              · show xi h' (Y + 22) x = (if cst d i x then nI (clF d i).1 else (clF d i).2.1 x)
                have q : ¬ (if cst d i x then nI (clF d i).1 else (clF d i).2.1 x) = -1 := q
                by_cases c : cst d i x = true
                · rw [if_pos c]
                  exact s2 x hx (by rw [cst_img L.w]; exact c)
                · rw [if_neg c] at q ⊢
                  exact s3 x hx (by rw [cst_img L.w]; simpa using c) q
          · have hlj : j < dnl d := by omega
            refine xo_f (nI_ge hlj (by omega)) (xo_eb (FX9_has_v (imgS d) (show j < 32 by omega)) (xo_jn ?_))
            dsimp only
            rw [nI_s]
            cases hm : mb (imgS d) j
            · refine xo_t rfl (again' hlj _ _ ⟨me, rfl, iW, fun x hx => ?_, fun x hx q => ?_, fun x hx q q2 => ?_, s4⟩)
              · rw [anyB_s, hm, s1 x hx]; simp
              · rw [anyB_s, hm] at q; exact s2 x hx (by simpa using q)
              · rw [anyB_s, hm] at q; exact s3 x hx (by simpa using q) q2
            · have q2 := w7 i j hlt hlj
              refine xo_f (by decide) (xo_g y4.1 (xo_n y4.r22 (xo_g y4.1 (xo_eb (FX9_down_v M4 hlt hlj) (xo_g ⟨y4.k22, by rw [y4.n22]; exact xin_nI (by omega) (by omega)⟩ (xo_lt ?_))))))
              rw [xz_nI (by omega)]
              have i5 := iW.yi (Y + 22) (dtl d i j) (nI (clF d i).1) (Or.inr rfl)
              have M5 := M.iw i5 ap
              refine xo_g M5.y.1 (xo_eb (FX9_down_v M5 hlt hlj) (xo_lt ?_))
              rw [sh_d]
              refine again' hlj _ _ ⟨_, rfl, i5, fun x hx => ?_, fun x hx q => ?_, fun x hx q q2 => ?_, fun a ha => ?_⟩
              · rw [mb_or, mb_sh (by omega), anyB_s, hm, s1 x hx, Bool.or_assoc]
                by_cases ex : x = dtl d i j
                · simp [ex]
                · have ex2 : ¬ dtl d i j = x := fun q => ex q.symm
                  simp [ex, ex2]
              · by_cases ex : x = dtl d i j
                · rw [ex, xi_yi1]
                · have ex2 : ¬ dtl d i j = x := fun q => ex q.symm
                  rw [xi_yi2 _ _ (Or.inr ex)]
                  rw [anyB_s, hm] at q
                  exact s2 x hx (by simpa [ex2] using q)
              · have ex : ¬ x = dtl d i j := fun ex => by
                  rw [anyB_s, hm] at q
                  simp [ex] at q
                rw [xi_yi2 _ _ (Or.inr ex)]
                rw [anyB_s, hm, Bool.or_eq_false_iff] at q
                exact s3 x hx q.1 q2
              · rw [xi_yi2 _ _ (Or.inl (by omega))]; exact s4 a ha
        · show mb met x = (mb met x || false)
          rw [Bool.or_false]
        · have q : false = true := q
          cases q
        · rw [xi_yi2 _ _ (Or.inl (by omega))]; exact r2 x hx q
        · by_cases ea : a = (clF d i).1
          · subst ea; rw [xi_yi1, if_pos rfl]
          · rw [xi_yi2 _ _ (Or.inr ea), if_neg ea]; exact r3 a (by omega)
      · refine xo_f (by simp [e1, bI, i1_0]) ?_
        dsimp only
        rw [nI_s]
        refine again hlt _ _ ⟨met, ?_, iW, ?_⟩
        · rw [clF_s, if_neg e1]
        · rw [clF_s, if_neg e1]
          exact ⟨r1, r2, r3⟩
  · rw [mb_0]; rfl
end YMS
