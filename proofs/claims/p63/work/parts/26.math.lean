/-! Groups, classes, orders: what is true of the numbers. -/
set_option linter.unusedVariables false
/-- a group: 0 is the unit, v the inverses -/
def GA (n : Nat) (t : Nat → Nat → Nat) (v : Nat → Nat) : Prop := (∀ a b, a < n → b < n → t a b < n) ∧ (∀ a, a < n → v a < n) ∧ (∀ a b c, a < n → b < n → c < n → t (t a b) c = t a (t b c)) ∧ (∀ a, a < n → t 0 a = a ∧ t a 0 = a) ∧ ∀ a, a < n → t (v a) a = 0 ∧ t a (v a) = 0
section GAS
variable {n : Nat} {t : Nat → Nat → Nat} {v : Nat → Nat}
theorem GA.cl (G : GA n t v) {a b : Nat} (ha : a < n) (hb : b < n) : t a b < n := G.1 a b ha hb
theorem GA.iv (G : GA n t v) {a : Nat} (ha : a < n) : v a < n := G.2.1 a ha
theorem GA.as (G : GA n t v) {a b c : Nat} (ha : a < n) (hb : b < n) (hc : c < n) : t (t a b) c = t a (t b c) := G.2.2.1 a b c ha hb hc
theorem GA.ol (G : GA n t v) {a : Nat} (ha : a < n) : t 0 a = a := (G.2.2.2.1 a ha).1
theorem GA.or (G : GA n t v) {a : Nat} (ha : a < n) : t a 0 = a := (G.2.2.2.1 a ha).2
theorem GA.il (G : GA n t v) {a : Nat} (ha : a < n) : t (v a) a = 0 := (G.2.2.2.2 a ha).1
theorem GA.ir (G : GA n t v) {a : Nat} (ha : a < n) : t a (v a) = 0 := (G.2.2.2.2 a ha).2
theorem GA.rc (G : GA n t v) {a b c : Nat} (ha : a < n) (hb : b < n) (hc : c < n) (e : t a c = t b c) : a = b := by
  have h1 : t (t a c) (v c) = t (t b c) (v c) := by rw [e]
  rw [G.as ha hc (G.iv hc), G.as hb hc (G.iv hc), G.ir hc, G.or ha, G.or hb] at h1
  exact h1
theorem GA.lc (G : GA n t v) {a b c : Nat} (ha : a < n) (hb : b < n) (hc : c < n) (e : t c a = t c b) : a = b := by
  have h1 : t (v c) (t c a) = t (v c) (t c b) := by rw [e]
  rw [← G.as (G.iv hc) hc ha, ← G.as (G.iv hc) hc hb, G.il hc, G.ol ha, G.ol hb] at h1
  exact h1
theorem GA.vu (G : GA n t v) {a b : Nat} (ha : a < n) (hb : b < n) (e : t a b = 0) : b = v a := G.lc hb (G.iv ha) ha (by rw [e, G.ir ha])
theorem GA.vv (G : GA n t v) {a : Nat} (ha : a < n) : v (v a) = a := (G.vu (G.iv ha) ha (G.il ha)).symm
end GAS
/-- of N + 1 numbers below N two are the same -/
theorem pigeon : ∀ (N : Nat) (s : Nat → Nat), (∀ i, i ≤ N → s i < N) → ∃ i j, i < j ∧ j ≤ N ∧ s i = s j := by
  intro N
  induction N with
  | zero => intro s h; exact absurd (h 0 (Nat.le_refl _)) (Nat.not_lt_zero _)
  | succ N ih =>
    intro s h
    by_cases e : ∃ i, i ≤ N + 1 ∧ s i = N
    · obtain ⟨i0, h0, e0⟩ := e
      by_cases e2 : ∃ j, j ≤ N + 1 ∧ j ≠ i0 ∧ s j = N
      · obtain ⟨j, hj, hne, ej⟩ := e2
        rcases Nat.lt_or_gt_of_ne hne with q | q
        · exact ⟨j, i0, q, h0, by rw [ej, e0]⟩
        · exact ⟨i0, j, q, hj, by rw [ej, e0]⟩
      · have hlt : ∀ j, j ≤ N + 1 → j ≠ i0 → s j < N := fun j hj hne => by
          have h1 := h j hj
          have h2 : s j ≠ N := fun q => e2 ⟨j, hj, hne, q⟩
          omega
        obtain ⟨i, j, h1, h2, h3⟩ := ih (fun i => if i < i0 then s i else s (i + 1)) (fun i hi => by
          show (if i < i0 then s i else s (i + 1)) < N
          split
          · exact hlt i (by omega) (by omega)
          · exact hlt (i + 1) (by omega) (by omega))
        have h3 : (if i < i0 then s i else s (i + 1)) = (if j < i0 then s j else s (j + 1)) := h3
        by_cases q1 : i < i0
        · by_cases q2 : j < i0
          · rw [if_pos q1, if_pos q2] at h3; exact ⟨i, j, h1, by omega, h3⟩
          · rw [if_pos q1, if_neg q2] at h3; exact ⟨i, j + 1, by omega, by omega, h3⟩
        · rw [if_neg q1, if_neg (by omega)] at h3; exact ⟨i + 1, j + 1, by omega, by omega, h3⟩
    · obtain ⟨i, j, h1, h2, h3⟩ := ih s (fun i hi => by
        have h1 := h i (by omega)
        have h2 : s i ≠ N := fun q => e ⟨i, by omega, q⟩
        omega)
      exact ⟨i, j, h1, by omega, h3⟩
/-- powers come to 0 -/
theorem pw_zero {N : Nat} {t : Nat → Nat → Nat} {a : Nat} (ha : a < N) (hc : ∀ x, x < N → t x a < N) (h0 : t 0 a = a) (hi : ∀ x y, x < N → y < N → t x a = t y a → x = y) : ∃ i, i < N ∧ pw t a i = 0 := by
  have hlt : ∀ i, pw t a i < N := by
    intro i
    induction i with
    | zero => exact ha
    | succ i ih => exact hc _ ih
  obtain ⟨i, j, h1, h2, h3⟩ := pigeon N (fun k => if k = 0 then 0 else pw t a (k - 1)) (fun k hk => by
    show (if k = 0 then 0 else pw t a (k - 1)) < N
    split
    · omega
    · exact hlt _)
  have key : ∀ (i j : Nat), i < j → (if i = 0 then 0 else pw t a (i - 1)) = (if j = 0 then 0 else pw t a (j - 1)) → j ≤ N → ∃ k, k < N ∧ pw t a k = 0 := by
    intro i
    induction i with
    | zero =>
      intro j h1 h3 h2
      rw [if_pos rfl, if_neg (by omega)] at h3
      exact ⟨j - 1, by omega, h3.symm⟩
    | succ i ih =>
      intro j h1 h3 h2
      rw [if_neg (by omega), if_neg (by omega)] at h3
      refine ih (j - 1) (by omega) ?_ (by omega)
      have e : ∀ m, pw t a m = t (if m = 0 then 0 else pw t a (m - 1)) a := by
        intro m
        cases m with
        | zero => rw [if_pos rfl, h0]; rfl
        | succ m => rw [if_neg (by omega)]; rfl
      rw [e (i + 1 - 1), e (j - 1)] at h3
      refine hi _ _ ?_ ?_ h3
      · split
        · omega
        · exact hlt _
      · split
        · omega
        · exact hlt _
  exact key i j h1 h3 h2
theorem pw_first {t : Nat → Nat → Nat} {a m : Nat} (h : ∃ i, i < m + 1 ∧ pw t a i = 0) : pw t a (fi m (fun i => pw t a i == 0)) = 0 ∧ ∀ i, i < fi m (fun i => pw t a i == 0) → ¬ pw t a i = 0 := by
  refine ⟨?_, fun i hi => by simpa using fi_not hi⟩
  rcases Nat.lt_or_ge (fi m (fun i => pw t a i == 0)) m with q | q
  · simpa using fi_yes q
  · have := fi_le m (fun i => pw t a i == 0)
    have e : fi m (fun i => pw t a i == 0) = m := by omega
    obtain ⟨i, hi, e0⟩ := h
    by_cases e1 : i = m
    · rw [e, ← e1]; exact e0
    · have := fi_not (m := m) (P := fun i => pw t a i == 0) (i := i) (by omega)
      simp [e0] at this
theorem od_first {n : Nat} {t : Nat → Nat → Nat} {v : Nat → Nat} (G : GA n t v) (hn : n ≤ 8) {a : Nat} (ha : a < n) : pw t a (fi 7 (fun i => pw t a i == 0)) = 0 ∧ ∀ i, i < fi 7 (fun i => pw t a i == 0) → ¬ pw t a i = 0 := by
  obtain ⟨i, h1, h2⟩ := pw_zero (t := t) ha (fun x hx => G.cl hx ha) (G.ol ha) (fun x y hx hy e => G.rc hx hy ha e)
  exact pw_first ⟨i, by omega, h2⟩
/-- both groups of a module are groups -/
def GD (d : MD) : Prop := GA (dnu d) (dtu d) (dvu d) ∧ GA (dnl d) (dtl d) (dvl d)
theorem ol_first {d : MD} (w : Wd d) (g : GD d) {x : Nat} (hx : x < dnu d * dnl d) (h0 : lpS d 0 x = x) : pw (lpS d) x (fi 63 (fun i => pw (lpS d) x i == 0)) = 0 ∧ ∀ i, i < fi 63 (fun i => pw (lpS d) x i == 0) → ¬ pw (lpS d) x i = 0 := by
  have h64 := lg_64 w
  obtain ⟨i, h1, h2⟩ := pw_zero (t := lpS d) hx (fun y hy => lp_lt w hy hx) h0 (fun y z hy hz e => by
    unfold lpS at e
    have hl := w.1.2.2.1
    have a1 := w.2.2.2.1 _ _ (lg_lo w y) (lg_lo w x)
    have a2 := w.2.2.2.1 _ _ (lg_lo w z) (lg_lo w x)
    have e1 : dtl d (y % dnl d) (x % dnl d) = dtl d (z % dnl d) (x % dnl d) := by
      have := congrArg (· % dnl d) e
      simp only [Nat.mul_add_mod_self_right] at this
      rwa [Nat.mod_eq_of_lt a1, Nat.mod_eq_of_lt a2] at this
    have e2 := g.2.rc (lg_lo w y) (lg_lo w z) (lg_lo w x) e1
    rw [e2] at e
    have e3 : dtu d (y / dnl d) (dac d (z % dnl d) (x / dnl d)) = dtu d (z / dnl d) (dac d (z % dnl d) (x / dnl d)) := Nat.eq_of_mul_eq_mul_right hl (Nat.add_right_cancel e)
    have e4 := g.1.rc (lg_hi w hy) (lg_hi w hz) (w.2.2.2.2.2.2 _ _ (lg_lo w z) (lg_hi w hx)) e3
    have h5 := Nat.div_add_mod y (dnl d)
    have h6 := Nat.div_add_mod z (dnl d)
    rw [e2, e4] at h5
    exact h5.symm.trans h6)
  exact pw_first ⟨i, by omega, h2⟩
/-- what a lawful module keeps -/
def LW (d : MD) : Prop := Wd d ∧ GD d ∧ (∀ a b, a < dnu d → b < dnu d → dbd d (dtu d a b) = dtl d (dbd d a) (dbd d b)) ∧ (∀ a, a < dnu d → dac d 0 a = a) ∧ ∀ g a, g < dnl d → a < dnu d → dbd d (dac d g a) = dtl d (dtl d g (dbd d a)) (dvl d g)
theorem why_0 {d : MD} (h : whyS d = 0) : b1S d = false ∧ anyB (dnl d) (b2S d) = false ∧ b3S d = false ∧ b4S d = false ∧ b5S d = false := by
  unfold whyS at h
  cases e1 : b1S d
  · rw [e1] at h
    cases e2 : anyB (dnl d) (b2S d)
    · rw [e2] at h
      cases e3 : b3S d
      · rw [e3] at h
        cases e4 : b4S d
        · rw [e4] at h
          cases e5 : b5S d
          · exact ⟨rfl, rfl, rfl, rfl, rfl⟩
          · rw [e5] at h; simp at h
        · rw [e4] at h; simp at h
      · rw [e3] at h; simp at h
    · rw [e2] at h; simp at h
  · rw [e1] at h; simp at h
theorem LW_of {d : MD} (w : Wd d) (g : GD d) (h : whyS d = 0) : LW d := by
  obtain ⟨h1, -, h3, h4, -⟩ := why_0 h
  refine ⟨w, g, fun a b ha hb => ?_, fun a ha => ?_, fun c a hc ha => ?_⟩
  · have := anyB_f.mp (anyB_f.mp h1 a ha) b hb
    simpa using this
  · unfold b3S at h3
    rw [Bool.or_eq_false_iff] at h3
    have := anyB_f.mp h3.1 a ha
    simpa using this
  · have := anyB_f.mp (anyB_f.mp h4 c hc) a ha
    simpa using this
section LWS
variable {d : MD}
theorem LW.w (l : LW d) : Wd d := l.1
theorem LW.gu (l : LW d) : GA (dnu d) (dtu d) (dvu d) := l.2.1.1
theorem LW.gl (l : LW d) : GA (dnl d) (dtl d) (dvl d) := l.2.1.2
theorem LW.bl (l : LW d) {a : Nat} (ha : a < dnu d) : dbd d a < dnl d := l.1.2.2.2.2.2.1 a ha
theorem LW.al (l : LW d) {g a : Nat} (hg : g < dnl d) (ha : a < dnu d) : dac d g a < dnu d := l.1.2.2.2.2.2.2 g a hg ha
theorem LW.u0 (l : LW d) : 0 < dnu d := l.1.1.1
theorem LW.l0 (l : LW d) : 0 < dnl d := l.1.1.2.2.1
theorem LW.l8 (l : LW d) : dnl d ≤ 8 := l.1.1.2.2.2
theorem LW.b0 (l : LW d) : dbd d 0 = 0 := by
  have h0 := l.bl l.u0
  have e := l.2.2.1 0 0 l.u0 l.u0
  rw [l.gu.ol l.u0] at e
  have e2 : dtl d (dbd d 0) (dbd d 0) = dtl d (dbd d 0) 0 := by rw [← e, l.gl.or h0]
  exact l.gl.lc h0 l.l0 h0 e2
theorem LW.bv (l : LW d) {a : Nat} (ha : a < dnu d) : dtl d (dbd d a) (dbd d (dvu d a)) = 0 := by
  rw [← l.2.2.1 a _ ha (l.gu.iv ha), l.gu.ir ha, l.b0]
theorem cst_iff {g x : Nat} : cst d g x = true ↔ ∃ a, a < dnu d ∧ dtl d g (dbd d a) = x := by
  unfold cst
  rw [anyB_iff]
  constructor
  · rintro ⟨a, h1, h2⟩; exact ⟨a, h1, by simpa using h2⟩
  · rintro ⟨a, h1, h2⟩; exact ⟨a, h1, by simpa using h2⟩
theorem LW.c1 (l : LW d) {g : Nat} (hg : g < dnl d) : cst d g g = true := cst_iff.mpr ⟨0, l.u0, by rw [l.b0, l.gl.or hg]⟩
theorem LW.c2 (l : LW d) {g x : Nat} (hg : g < dnl d) (h : cst d g x = true) : cst d x g = true := by
  obtain ⟨a, ha, rfl⟩ := cst_iff.mp h
  exact cst_iff.mpr ⟨dvu d a, l.gu.iv ha, by rw [l.gl.as hg (l.bl ha) (l.bl (l.gu.iv ha)), l.bv ha, l.gl.or hg]⟩
theorem LW.c3 (l : LW d) {g x y : Nat} (hg : g < dnl d) (h : cst d g x = true) (h2 : cst d x y = true) : cst d g y = true := by
  obtain ⟨a, ha, rfl⟩ := cst_iff.mp h
  obtain ⟨b, hb, rfl⟩ := cst_iff.mp h2
  exact cst_iff.mpr ⟨dtu d a b, l.gu.cl ha hb, by rw [l.2.2.1 a b ha hb, l.gl.as hg (l.bl ha) (l.bl hb)]⟩
theorem LW.c4 (l : LW d) {g x k : Nat} (hg : g < dnl d) (hk : k < dnl d) (h : cst d g x = true) : cst d (dtl d g k) (dtl d x k) = true := by
  obtain ⟨a, ha, rfl⟩ := cst_iff.mp h
  have hv := l.gl.iv hk
  have hb := l.bl ha
  refine cst_iff.mpr ⟨dac d (dvl d k) a, l.al hv ha, ?_⟩
  rw [l.2.2.2.2 _ a hv ha, l.gl.vv hk, l.gl.as hg hk (l.gl.cl (l.gl.cl hv hb) hk), ← l.gl.as hk (l.gl.cl hv hb) hk, ← l.gl.as hk hv hb, l.gl.ir hk, l.gl.ol hb, ← l.gl.as hg hb hk]
/-- what holds of the classes of the first i -/
def clP (d : MD) (i : Nat) : Prop := (∀ x, x < dnl d → (clF d i).2.1 x = -1 ∨ ∃ a, a < (clF d i).1 ∧ (clF d i).2.1 x = nI a ∧ cst d ((clF d i).2.2 a) x = true) ∧ (∀ a x, a < (clF d i).1 → x < dnl d → cst d ((clF d i).2.2 a) x = true → (clF d i).2.1 x = nI a) ∧ (∀ a, a < (clF d i).1 → (clF d i).2.2 a < i) ∧ (∀ x, x < i → (clF d i).2.1 x ≠ -1) ∧ (0 < i → 0 < (clF d i).1 ∧ (clF d i).2.2 0 = 0)
theorem nI_ng1 {a : Nat} (h : a < 100) : nI a ≠ -1 := by
  intro e
  have h1 := nI_0le (k := a) (by omega)
  rw [e] at h1
  revert h1
  decide
theorem clP_all (l : LW d) : ∀ i, i ≤ dnl d → clP d i := by
  intro i
  have h8 := l.l8
  induction i with
  | zero => intro _; exact ⟨fun x hx => Or.inl rfl, fun a x ha => absurd ha (Nat.not_lt_zero _), fun a ha => absurd ha (Nat.not_lt_zero _), fun x hx => absurd hx (Nat.not_lt_zero _), fun q => absurd q (Nat.not_lt_zero _)⟩
  | succ i ih =>
    intro hi
    obtain ⟨p1, p2, p3, p4, p5⟩ := ih (by omega)
    have hle := clF_le d i
    unfold clP
    rw [clF_s]
    by_cases e : (clF d i).2.1 i = -1
    · rw [if_pos e]
      refine ⟨fun x hx => ?_, fun a x ha hx hc => ?_, fun a ha => ?_, fun x hx => ?_, fun _ => ?_⟩
      · show (if cst d i x then nI (clF d i).1 else (clF d i).2.1 x) = -1 ∨ ∃ a, a < (clF d i).1 + 1 ∧ (if cst d i x then nI (clF d i).1 else (clF d i).2.1 x) = nI a ∧ cst d (if a = (clF d i).1 then i else (clF d i).2.2 a) x = true
        by_cases hc : cst d i x = true
        · refine Or.inr ⟨(clF d i).1, by omega, if_pos hc, ?_⟩
          rw [if_pos rfl]; exact hc
        · rw [if_neg hc]
          rcases p1 x hx with q | ⟨a, q1, q2, q3⟩
          · exact Or.inl q
          · refine Or.inr ⟨a, by omega, q2, ?_⟩
            rw [if_neg (by omega)]; exact q3
      · have ha : a < (clF d i).1 + 1 := ha
        have hc : cst d (if a = (clF d i).1 then i else (clF d i).2.2 a) x = true := hc
        show (if cst d i x then nI (clF d i).1 else (clF d i).2.1 x) = nI a
        by_cases ea : a = (clF d i).1
        · rw [if_pos ea] at hc
          rw [if_pos hc, ea]
        · rw [if_neg ea] at hc
          have ha2 : a < (clF d i).1 := by omega
          have q := p2 a x ha2 hx hc
          by_cases hc2 : cst d i x = true
          · exfalso
            have l1 := p3 a ha2
            have q1 := l.c3 (show (clF d i).2.2 a < dnl d by omega) hc (l.c2 (show i < dnl d by omega) hc2)
            have q2 := p2 a i ha2 (by omega) q1
            rw [e] at q2
            exact nI_ng1 (by omega) q2.symm
          · rw [if_neg hc2]; exact q
      · have ha : a < (clF d i).1 + 1 := ha
        show (if a = (clF d i).1 then i else (clF d i).2.2 a) < i + 1
        split
        · omega
        · have := p3 a (by omega); omega
      · show (if cst d i x then nI (clF d i).1 else (clF d i).2.1 x) ≠ -1
        split
        · exact nI_ng1 (by omega)
        · by_cases ex : x = i
          · subst ex
            exact absurd (l.c1 (show x < dnl d by omega)) ‹_›
          · exact p4 x (by omega)
      · refine ⟨Nat.succ_pos _, ?_⟩
        show (if 0 = (clF d i).1 then i else (clF d i).2.2 0) = 0
        by_cases e0 : i = 0
        · subst e0; rfl
        · have := p5 (by omega)
          rw [if_neg (by omega)]; exact this.2
    · rw [if_neg e]
      refine ⟨p1, p2, fun a ha => by have := p3 a ha; omega, fun x hx => ?_, fun _ => ?_⟩
      · by_cases ex : x = i
        · subst ex; exact e
        · exact p4 x (by omega)
      · by_cases e0 : i = 0
        · subst e0; exact absurd rfl e
        · exact p5 (by omega)
/-- how many classes, the class of x, the least of class a, products of classes -/
def ccN (d : MD) : Nat := (clF d (dnl d)).1
def nmS (d : MD) (x : Nat) : Nat := ((clF d (dnl d)).2.1 x).toNatClampNeg
def lsS (d : MD) (a : Nat) : Nat := (clF d (dnl d)).2.2 a
def cpS (d : MD) (a b : Nat) : Nat := nmS d (dtl d (lsS d a) (lsS d b))
theorem ccN_8 (l : LW d) : ccN d ≤ 8 := by have := clF_le d (dnl d); have := l.l8; unfold ccN; omega
theorem LW.nm (l : LW d) {x : Nat} (hx : x < dnl d) : (clF d (dnl d)).2.1 x = nI (nmS d x) ∧ nmS d x < ccN d ∧ cst d (lsS d (nmS d x)) x = true := by
  obtain ⟨p1, p2, p3, p4, p5⟩ := clP_all l (dnl d) (Nat.le_refl _)
  have h8 := ccN_8 l
  rcases p1 x hx with q | ⟨a, q1, q2, q3⟩
  · exact absurd q (p4 x hx)
  · have q1' : a < ccN d := q1
    have e : nmS d x = a := by unfold nmS; rw [q2, xz_nI (by omega)]
    rw [e]
    exact ⟨q2, q1, q3⟩
theorem LW.ls (l : LW d) {a : Nat} (ha : a < ccN d) : lsS d a < dnl d := (clP_all l (dnl d) (Nat.le_refl _)).2.2.1 a ha
theorem LW.nm_of (l : LW d) {a x : Nat} (ha : a < ccN d) (hx : x < dnl d) (h : cst d (lsS d a) x = true) : nmS d x = a := by
  have e := (clP_all l (dnl d) (Nat.le_refl _)).2.1 a x ha hx h
  have h8 := ccN_8 l
  unfold nmS
  rw [e, xz_nI (by omega)]
theorem LW.nm_ls (l : LW d) {a : Nat} (ha : a < ccN d) : nmS d (lsS d a) = a := l.nm_of ha (l.ls ha) (l.c1 (l.ls ha))
theorem LW.nm_eq (l : LW d) {x y : Nat} (hx : x < dnl d) (hy : y < dnl d) : nmS d x = nmS d y ↔ cst d x y = true := by
  obtain ⟨-, h1, h2⟩ := l.nm hx
  obtain ⟨-, h3, h4⟩ := l.nm hy
  constructor
  · intro e
    rw [← e] at h4
    exact l.c3 hx (l.c2 (l.ls h1) h2) h4
  · intro h
    exact (l.nm_of h1 hy (l.c3 (l.ls h1) h2 h)).symm
theorem LW.cc0 (l : LW d) : 0 < ccN d ∧ lsS d 0 = 0 := (clP_all l (dnl d) (Nat.le_refl _)).2.2.2.2 l.l0
theorem LW.cp_lt (l : LW d) {a b : Nat} (ha : a < ccN d) (hb : b < ccN d) : cpS d a b < ccN d := (l.nm (l.gl.cl (l.ls ha) (l.ls hb))).2.1
theorem LW.cp_0 (l : LW d) {a : Nat} (ha : a < ccN d) : cpS d 0 a = a := by
  unfold cpS
  rw [l.cc0.2, l.gl.ol (l.ls ha), l.nm_ls ha]
theorem LW.cp_rc (l : LW d) {a b c : Nat} (ha : a < ccN d) (hb : b < ccN d) (hc : c < ccN d) (e : cpS d a c = cpS d b c) : a = b := by
  have q1 := l.ls ha
  have q2 := l.ls hb
  have q3 := l.ls hc
  have h1 := (l.nm_eq (l.gl.cl q1 q3) (l.gl.cl q2 q3)).mp e
  have h2 := l.c4 (k := dvl d (lsS d c)) (l.gl.cl q1 q3) (l.gl.iv q3) h1
  rw [l.gl.as q1 q3 (l.gl.iv q3), l.gl.as q2 q3 (l.gl.iv q3), l.gl.ir q3, l.gl.or q1, l.gl.or q2] at h2
  have h3 := (l.nm_eq q1 q2).mpr h2
  rwa [l.nm_ls ha, l.nm_ls hb] at h3
/-- the order of a class -/
def cdS (d : MD) (a : Nat) : Nat := fi 7 (fun i => pw (cpS d) a i == 0) + 1
theorem LW.cd_first (l : LW d) {a : Nat} (ha : a < ccN d) : pw (cpS d) a (fi 7 (fun i => pw (cpS d) a i == 0)) = 0 ∧ ∀ i, i < fi 7 (fun i => pw (cpS d) a i == 0) → ¬ pw (cpS d) a i = 0 := by
  obtain ⟨i, h1, h2⟩ := pw_zero (t := cpS d) ha (fun x hx => l.cp_lt hx ha) (l.cp_0 ha) (fun x y hx hy e => l.cp_rc hx hy ha e)
  have := ccN_8 l
  exact pw_first ⟨i, by omega, h2⟩
theorem LW.lp0 (l : LW d) {x : Nat} (hx : x < dnu d * dnl d) : lpS d 0 x = x := by
  unfold lpS
  rw [Nat.zero_div, Nat.zero_mod, l.2.2.2.1 _ (lg_hi l.1 hx), l.gu.ol (lg_hi l.1 hx), l.gl.ol (lg_lo l.1 x), Nat.mul_comm, Nat.div_add_mod]
end LWS
/-- how many kernel elements, how many classes have order o -/
def koS (d : MD) (o : Nat) : Int32 := sumI (fun a => if dbd d a = 0 ∧ odS (dtu d) a = o then 1 else 0) (dnu d)
def coS (d : MD) (o : Nat) : Int32 := sumI (fun a => if cdS d a = o then 1 else 0) (ccN d)
def alS (d e : MD) : Bool := !anyB 8 (fun i => koS d (i + 1) ≠ koS e (i + 1) ∨ coS d (i + 1) ≠ coS e (i + 1))
