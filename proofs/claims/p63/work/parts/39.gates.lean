/-! The tests ahead of every call, on both sides. -/
set_option linter.unusedVariables false
theorem yi_yi (h : XH) (a k : Nat) (x y : Int32) : yi (yi h a k x) a k y = yi h a k y := by
  unfold yi
  congr 3
  funext b j
  by_cases e : b = a ∧ j = k
  · simp [e]
  · simp [e]
theorem inr_of {p : Int32} {n : Nat} (hn : n < 2 ^ 31) (e : inr p n = true) : ∃ k, k < n ∧ p = nI k := by
  obtain ⟨h1, h2⟩ := of_decide_eq_true e
  obtain ⟨k, hk, rfl⟩ := nI_of (Int32.not_lt.mpr h1)
  exact ⟨k, by rwa [nI_ltP hk hn] at h2, rfl⟩
theorem inr_nI {k n : Nat} (hn : n < 2 ^ 31) (hk : k < n) : inr (nI k) n = true := by
  unfold inr
  exact decide_eq_true ⟨of_eq_true (nI_0le (by omega)), of_eq_true ((nI_ltP (by omega) hn).trans (eq_true hk))⟩
theorem inr_no {p : Int32} {n : Nat} (e : inr p n = false) : p < 0 ∨ (¬ p < 0 ∧ nI n ≤ p) := by
  unfold inr at e
  rw [decide_eq_false_iff_not] at e
  by_cases c : p < 0
  · exact Or.inl c
  · refine Or.inr ⟨c, ?_⟩
    have h1 : 0 ≤ p := Int32.not_lt.mp c
    exact Int32.not_lt.mp fun q => e ⟨h1, q⟩
theorem nI_p (n : Nat) (h : n < 2 ^ 31) (h0 : 0 < n) : nI n - 1 = nI (n - 1) := by
  rw [show (1 : Int32) = nI 1 from rfl, pk_sub h0]
theorem FX3_has_v {E : XG} {h : XH} {N n l : Nat} (p : Int32) (k1 : xk h N = 4) (t1 : xi h N 2 = nI n) (r1 : xr h N 0 = some (N + 1)) (k2 : xk h (N + 1) = 13) (n2 : xn h (N + 1) = l) (hn : n ≤ l) (hl : l < 2 ^ 31) : FX3_has E N p h = xv (bI (inr p n)) h := by
  unfold FX3_has
  cases e : inr p n
  · rcases inr_no e with c | ⟨c1, c2⟩
    · simp (disch := omega) only [↓xg, ↓reduceIte, ↓xjn_d, ↓xlt_d, eq_self, and_self, and_true, true_and, not_true, not_false_iff, ne_eq, true_or, or_true, or_false, false_or, nI_s, nI_leP, nI_eqP, c]
      rfl
    · simp (disch := omega) only [↓xg, ↓reduceIte, ↓xjn_d, ↓xlt_d, eq_self, and_self, and_true, true_and, not_true, not_false_iff, ne_eq, true_or, or_true, or_false, false_or, nI_s, nI_leP, nI_eqP, c1, k1, t1, c2]
      rfl
  · obtain ⟨k, hk, rfl⟩ := inr_of (by omega) e
    have c1 : ¬ nI k < (0 : Int32) := by rw [nI_lt0 (by omega)]; exact id
    have c2 : ¬ n ≤ k := by omega
    have c3 : ¬ l ≤ k := by omega
    simp (disch := omega) only [↓xg, ↓reduceIte, ↓xjn_d, ↓xlt_d, eq_self, and_self, and_true, true_and, not_true, not_false_iff, ne_eq, true_or, or_true, or_false, false_or, nI_s, nI_leP, nI_eqP, c1, k1, t1, c2, ↓xnn_e (r1), k2, n2, ofNat_nI, c3]
    rfl
section GATE
variable {E : XG} {h : XH} {X Y w s f : Nat} {Z : ZD}
-- the class
theorem XI.k (x : XI h X w s f Z) : xk h X = 9 := x.1.1.1
theorem XI.w5 (x : XI h X w s f Z) : xr h X 5 = some w := x.1.2.1
theorem XI.ci (x : XI h X w s f Z) : CI h w (zS Z) (zT Z) := x.2.1.1
theorem XI.wl (x : XI h X w s f Z) : WL h w := x.2.1.1.wl
theorem XI.ld (x : XI h X w s f Z) : xi h X 4 = bI (zld Z) := x.2.2.2.1.2.2
theorem FX8_demandText_0 (x : XI h X w s f Z) (hl : zld Z = false) : FX8_demandText E X h = xx 0 h := by
  have e := x.ld
  rw [hl] at e
  unfold FX8_demandText
  (try dsimp only); (rw [xg_t (x.k), e, if_pos (show bI false = (0 : Int32) from rfl)])
theorem FX8_demandText_v (x : XI h X w s f Z) (hl : zld Z = true) : FX8_demandText E X h = xv () h := by
  have e := x.ld
  rw [hl] at e
  unfold FX8_demandText
  (try dsimp only); (rw [xg_t (x.k), e, if_neg (show ¬ bI true = (0 : Int32) by decide)])
theorem FX8_demandThere_v (b : Bool) : FX8_demandThere E (bI b) h = if b then xv () h else xx 1 h := by cases b <;> rfl
theorem FX8_demandFit_v (b : Bool) : FX8_demandFit E (bI b) h = if b then xv () h else xx 2 h := by cases b <;> rfl
theorem XI.hg (x : XI h X w s f Z) (p : Int32) : FX3_has E (w + 1) p h = xv (bI (inr p (sng (zS Z)))) h :=
  FX3_has_v (l := 6) p x.wl.kn x.ci.2.1.2.1.1 (x.wl.2.1 (1, 0, 2, 13, 6) (by decide)).1 (x.wl.2.1 (1, 0, 2, 13, 6) (by decide)).2.1 (x.wl.2.1 (1, 0, 2, 13, 6) (by decide)).2.2 x.ci.1.1.1.1 (by omega)
theorem XI.hm (x : XI h X w s f Z) (p : Int32) : FX3_has E (w + 4) p h = xv (bI (inr p (snm (zS Z)))) h :=
  FX3_has_v (l := 6) p x.wl.km x.ci.2.1.2.1.2.1 (x.wl.2.1 (4, 0, 5, 13, 6) (by decide)).1 (x.wl.2.1 (4, 0, 5, 13, 6) (by decide)).2.1 (x.wl.2.1 (4, 0, 5, 13, 6) (by decide)).2.2 x.ci.1.1.1.2.1 (by omega)
theorem XI.ha (x : XI h X w s f Z) (p : Int32) : FX3_has E (w + 7) p h = xv (bI (inr p (sna (zS Z)))) h :=
  FX3_has_v (l := 8) p x.wl.ka x.ci.2.1.2.1.2.2 (x.wl.2.1 (7, 0, 8, 13, 8) (by decide)).1 (x.wl.2.1 (7, 0, 8, 13, 8) (by decide)).2.1 (x.wl.2.1 (7, 0, 8, 13, 8) (by decide)).2.2 x.ci.1.1.1.2.2 (by omega)
theorem FX8_groupAt_0 (x : XI h X w s f Z) (hl : zld Z = false) (p : Int32) : FX8_groupAt E X p h = xx 0 h := by
  unfold FX8_groupAt
  rw [xg_t x.k, FX8_demandText_0 x hl]
  rfl
theorem FX8_groupAt_1 (x : XI h X w s f Z) (hl : zld Z = true) {p : Int32} (hp : inr p (sng (zS Z)) = false) : FX8_groupAt E X p h = xx 1 h := by
  unfold FX8_groupAt
  (try dsimp only); (rw [xg_t (x.k), xb_eq (FX8_demandText_v x hl), xg_t (x.k), xnn_e (x.w5), xg_t (x.wl.1), xnn_e (x.wl.rn), xg_t (x.wl.kn), xb_eq (x.hg p), hp, FX8_demandThere_v])
  rfl
theorem FX8_groupAt_v (x : XI h X w s f Z) (hl : zld Z = true) {g : Nat} (hg : g < sng (zS Z)) : FX8_groupAt E X (nI g) h = xv (w + 14 + 3 * g) h := by
  have h6 := x.ci.1.1.1.1
  unfold FX8_groupAt
  (try dsimp only); (rw [xg_t (x.k), xb_eq (FX8_demandText_v x hl), xg_t (x.k), xnn_e (x.w5), xg_t (x.wl.1), xnn_e (x.wl.rn), xg_t (x.wl.kn), xb_eq (x.hg (nI g)), inr_nI (show sng (zS Z) < 2 ^ 31 by omega) hg, FX8_demandThere_v, if_pos rfl, xb_v, xg_t (x.k), xnn_e (x.w5), xg_t (x.wl.1), xnn_e (x.wl.r10), xg_t (show xk h (w + 10) = 17 ∧ xin (nI g) (xn h (w + 10)) from ⟨x.wl.k10, by rw [x.wl.n10]; exact xin_nI (by omega) (by omega)⟩), xnn_e (x.wl.g (show g < 6 by omega))])
theorem FX8_moduleAt_0 (x : XI h X w s f Z) (hl : zld Z = false) (p : Int32) : FX8_moduleAt E X p h = xx 0 h := by
  unfold FX8_moduleAt
  rw [xg_t x.k, FX8_demandText_0 x hl]
  rfl
theorem FX8_moduleAt_1 (x : XI h X w s f Z) (hl : zld Z = true) {p : Int32} (hp : inr p (snm (zS Z)) = false) : FX8_moduleAt E X p h = xx 1 h := by
  unfold FX8_moduleAt
  (try dsimp only); (rw [xg_t (x.k), xb_eq (FX8_demandText_v x hl), xg_t (x.k), xnn_e (x.w5), xg_t (x.wl.1), xnn_e (x.wl.rm), xg_t (x.wl.km), xb_eq (x.hm p), hp, FX8_demandThere_v])
  rfl
theorem FX8_moduleAt_v (x : XI h X w s f Z) (hl : zld Z = true) {m : Nat} (hm : m < snm (zS Z)) : FX8_moduleAt E X (nI m) h = xv (w + 32 + 8 * m) h := by
  have h6 := x.ci.1.1.1.2.1
  unfold FX8_moduleAt
  (try dsimp only); (rw [xg_t (x.k), xb_eq (FX8_demandText_v x hl), xg_t (x.k), xnn_e (x.w5), xg_t (x.wl.1), xnn_e (x.wl.rm), xg_t (x.wl.km), xb_eq (x.hm (nI m)), inr_nI (show snm (zS Z) < 2 ^ 31 by omega) hm, FX8_demandThere_v, if_pos rfl, xb_v, xg_t (x.k), xnn_e (x.w5), xg_t (x.wl.1), xnn_e (x.wl.r11), xg_t (show xk h (w + 11) = 16 ∧ xin (nI m) (xn h (w + 11)) from ⟨x.wl.k11, by rw [x.wl.n11]; exact xin_nI (by omega) (by omega)⟩), xnn_e (x.wl.m (show m < 6 by omega))])
theorem FX8_arrowAt_0 (x : XI h X w s f Z) (hl : zld Z = false) (p : Int32) : FX8_arrowAt E X p h = xx 0 h := by
  unfold FX8_arrowAt
  rw [xg_t x.k, FX8_demandText_0 x hl]
  rfl
theorem FX8_arrowAt_1 (x : XI h X w s f Z) (hl : zld Z = true) {p : Int32} (hp : inr p (sna (zS Z)) = false) : FX8_arrowAt E X p h = xx 1 h := by
  unfold FX8_arrowAt
  (try dsimp only); (rw [xg_t (x.k), xb_eq (FX8_demandText_v x hl), xg_t (x.k), xnn_e (x.w5), xg_t (x.wl.1), xnn_e (x.wl.ra), xg_t (x.wl.ka), xb_eq (x.ha p), hp, FX8_demandThere_v])
  rfl
theorem FX8_arrowAt_v (x : XI h X w s f Z) (hl : zld Z = true) {a : Nat} (ha : a < sna (zS Z)) : FX8_arrowAt E X (nI a) h = xv (w + 80 + 3 * a) h := by
  have h6 := x.ci.1.1.1.2.2
  unfold FX8_arrowAt
  (try dsimp only); (rw [xg_t (x.k), xb_eq (FX8_demandText_v x hl), xg_t (x.k), xnn_e (x.w5), xg_t (x.wl.1), xnn_e (x.wl.ra), xg_t (x.wl.ka), xb_eq (x.ha (nI a)), inr_nI (show sna (zS Z) < 2 ^ 31 by omega) ha, FX8_demandThere_v, if_pos rfl, xb_v, xg_t (x.k), xnn_e (x.w5), xg_t (x.wl.1), xnn_e (x.wl.r12), xg_t (show xk h (w + 12) = 15 ∧ xin (nI a) (xn h (w + 12)) from ⟨x.wl.k12, by rw [x.wl.n12]; exact xin_nI (by omega) (by omega)⟩), xnn_e (x.wl.a (show a < 8 by omega))])
theorem FX8_lawfulModuleAt_0 (x : XI h X w s f Z) (hl : zld Z = false) (p : Int32) : FX8_lawfulModuleAt E X p h = xx 0 h := by
  unfold FX8_lawfulModuleAt
  rw [xg_t x.k, FX8_moduleAt_0 x hl]
  rfl
theorem FX8_lawfulModuleAt_1 (x : XI h X w s f Z) (hl : zld Z = true) {p : Int32} (hp : inr p (snm (zS Z)) = false) : FX8_lawfulModuleAt E X p h = xx 1 h := by
  unfold FX8_lawfulModuleAt
  rw [xg_t x.k, FX8_moduleAt_1 x hl hp]
  rfl
theorem XI.re (x : XI h X w s f Z) {m : Nat} (hm : m < snm (zS Z)) : xi h (w + 32 + 8 * m) 7 = nI (whS (zS Z) (zT Z) m) := x.ci.2.2.2.2.1 m hm
theorem whS_le (S : SD) (T : ST) (m : Nat) : whS S T m ≤ 5 := whyS_le _
theorem FX8_lawfulModuleAt_2 (x : XI h X w s f Z) (hl : zld Z = true) {m : Nat} (hm : m < snm (zS Z)) (hw : ¬ whS (zS Z) (zT Z) m = 0) : FX8_lawfulModuleAt E X (nI m) h = xx 2 h := by
  have q := whS_le (zS Z) (zT Z) m
  unfold FX8_lawfulModuleAt
  (try dsimp only); (rw [xg_t (x.k), xb_eq (FX8_moduleAt_v x hl hm), xg_t ((x.ci.cm hm).k), xjn_d, x.re hm, if_neg (show ¬ nI (whS (zS Z) (zT Z) m) = 0 by rw [nI_eq0 (by omega)]; exact hw)])
  rfl
theorem FX8_lawfulModuleAt_v (x : XI h X w s f Z) (hl : zld Z = true) {m : Nat} (hm : m < snm (zS Z)) (hw : whS (zS Z) (zT Z) m = 0) : FX8_lawfulModuleAt E X (nI m) h = xv (w + 32 + 8 * m) h := by
  unfold FX8_lawfulModuleAt
  (try dsimp only); (rw [xg_t (x.k), xb_eq (FX8_moduleAt_v x hl hm), xg_t ((x.ci.cm hm).k), xjn_d, x.re hm, hw, if_pos (show nI 0 = (0 : Int32) from rfl)])
  rfl
-- the reference
end GATE
