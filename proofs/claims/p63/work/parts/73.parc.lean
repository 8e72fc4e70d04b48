/-! The class reads: what it holds meanwhile, small steps. -/
set_option linter.unusedVariables false
/-- parser at P, tokens at K, the world that is read into at W -/
def CGe (X W K P : Nat) : Prop := (X + 223 ≤ K ∧ X + 223 ≤ P ∧ K ≠ P) ∧ (W = X + 2 ∨ W = X + 106)
def CL (h : XH) (X W K P : Nat) (B : BF) : Prop := CGe X W K P ∧ (xk h P = 6 ∧ xr h P 0 = some K ∧ xr h P 1 = some W) ∧ KL h K X B ∧ WL h W ∧ WN h W
/-- where the class writes while it reads -/
def rdA (W K P : Nat) : Nat → Nat → Prop := fun a j => (a = K ∧ 2 ≤ j) ∨ (a = P ∧ 2 ≤ j) ∨ (W < a ∧ a < W + 104 ∧ ¬ (W + 14 ≤ a ∧ a < W + 32 ∧ (a - (W + 14)) % 3 = 0 ∧ j = 0) ∧ ¬ (W + 32 ≤ a ∧ a < W + 80 ∧ (a - (W + 32)) % 8 = 0 ∧ j = 0))
def rdR (W : Nat) : Nat → Nat → Prop := fun a j => (W + 32 ≤ a ∧ a < W + 80 ∧ (a - (W + 32)) % 8 = 0 ∧ (j = 1 ∨ j = 2)) ∨ (W + 80 ≤ a ∧ a < W + 104 ∧ (a - (W + 80)) % 3 = 0 ∧ (j = 0 ∨ j = 1))
theorem WL_fw {A R : Nat → Nat → Prop} {h h' : XH} {W : Nat} (l : WL h W) (w : fW A R h h') (hR : ∀ a j, R a j → rdR W a j) : WL h' W := by
  obtain ⟨l1, l2, l3, l4, l5⟩ := l
  have nr : ∀ a j, ¬ rdR W a j → xr h' a j = xr h a j := fun a j q => w.r (fun z => q (hR a j z))
  have nt : ∀ q ∈ wT, q.1 < 14 ∧ q.2.2.1 < 14 := by decide
  refine ⟨(w.k _).trans l1, fun q hq => ?_, fun g hg => ?_, fun m hm => ?_, fun a ha => ?_⟩
  · obtain ⟨a1, a2, a3⟩ := l2 q hq
    have := nt q hq
    exact ⟨(nr _ _ (by unfold rdR; omega)).trans a1, (w.k _).trans a2, (w.n _).trans a3⟩
  · obtain ⟨a1, a2, a3, a4, a5, a6, a7, a8⟩ := l3 g hg
    exact ⟨(nr _ _ (by unfold rdR; omega)).trans a1, (w.k _).trans a2, (nr _ _ (by unfold rdR; omega)).trans a3, (w.k _).trans a4, (w.n _).trans a5, (nr _ _ (by unfold rdR; omega)).trans a6, (w.k _).trans a7, (w.n _).trans a8⟩
  · obtain ⟨a1, a2, ⟨a3, a4, a5⟩, ⟨a6, a7, a8⟩, a9, b1, ⟨b2, b3, b4⟩, ⟨b5, b6, b7⟩, ⟨b8, b9, c1⟩, c2, c3, c4⟩ := l4 m hm
    exact ⟨(nr _ _ (by unfold rdR; omega)).trans a1, (w.k _).trans a2, ⟨(nr _ _ (by unfold rdR; omega)).trans a3, (w.k _).trans a4, (w.n _).trans a5⟩, ⟨(nr _ _ (by unfold rdR; omega)).trans a6, (w.k _).trans a7, (w.n _).trans a8⟩, (nr _ _ (by unfold rdR; omega)).trans a9, (w.k _).trans b1, ⟨(nr _ _ (by unfold rdR; omega)).trans b2, (w.k _).trans b3, (w.n _).trans b4⟩, ⟨(nr _ _ (by unfold rdR; omega)).trans b5, (w.k _).trans b6, (w.n _).trans b7⟩, ⟨(nr _ _ (by unfold rdR; omega)).trans b8, (w.k _).trans b9, (w.n _).trans c1⟩, (nr _ _ (by unfold rdR; omega)).trans c2, (w.k _).trans c3, (w.n _).trans c4⟩
  · obtain ⟨a1, a2, ⟨a3, a4, a5⟩, a6, a7, a8⟩ := l5 a ha
    exact ⟨(nr _ _ (by unfold rdR; omega)).trans a1, (w.k _).trans a2, ⟨(nr _ _ (by unfold rdR; omega)).trans a3, (w.k _).trans a4, (w.n _).trans a5⟩, (nr _ _ (by unfold rdR; omega)).trans a6, (w.k _).trans a7, (w.n _).trans a8⟩
section CLS
variable {E : XG} {h h' : XH} {X W K P p i : Nat} {B : BF} {t : TK} {A R : Nat → Nat → Prop} {S : SD} {T : ST} {D : Nat → Int32}
theorem CL.fw (l : CL h X W K P B) (w : fW A R h h') (hA : ∀ a j, A a j → rdA W K P a j) (hR : ∀ a j, R a j → rdR W a j) : CL h' X W K P B := by
  obtain ⟨g, ⟨l1, l2, l3⟩, l4, l5, l6, l7⟩ := l
  have g0 := g
  obtain ⟨⟨g1, g2, g3⟩, g4⟩ := g
  have nr : ∀ a j, ¬ rdR W a j → xr h' a j = xr h a j := fun a j q => w.r (fun z => q (hR a j z))
  have ni : ∀ a j, ¬ rdA W K P a j → xi h' a j = xi h a j := fun a j q => w.i (fun z => q (hA a j z))
  refine ⟨g0, ⟨(w.k _).trans l1, (nr _ _ (by unfold rdR; omega)).trans l2, (nr _ _ (by unfold rdR; omega)).trans l3⟩, l4.fw w (fun q => ?_) (fun j q => ?_) (fun q => ?_), WL_fw l5 w hR, fun g hg => (ni _ _ ?_).trans (l6 g hg), fun m hm => (ni _ _ ?_).trans (l7 m hm)⟩
  · have := hA _ _ q
    unfold rdA at this
    omega
  · have := hA _ _ q
    unfold rdA at this
    omega
  · have := hR _ _ q
    unfold rdR at this
    omega
  · unfold rdA; omega
  · unfold rdA; omega
theorem CL.pk (l : CL h X W K P B) : xk h P = 6 := l.2.1.1
theorem CL.pt (l : CL h X W K P B) : xr h P 0 = some K := l.2.1.2.1
theorem CL.pw (l : CL h X W K P B) : xr h P 1 = some W := l.2.1.2.2
theorem CL.kl (l : CL h X W K P B) : KL h K X B := l.2.2.1
theorem CL.kk (l : CL h X W K P B) : xk h K = 7 := l.2.2.1.1.1
theorem CL.wl (l : CL h X W K P B) : WL h W := l.2.2.2.1
theorem CL.wk (l : CL h X W K P B) : xk h W = 8 := l.2.2.2.1.1
theorem CL.ft (l : CL h X W K P B) (w : fW (tA K) noR h h') : CL h' X W K P B := l.fw w (fun a j q => Or.inl q) (fun a j q => q.elim)
def pA (P : Nat) : Nat → Nat → Prop := fun a j => a = P ∧ 2 ≤ j
theorem CL.fp (l : CL h X W K P B) (w : fW (pA P) noR h h') : CL h' X W K P B := l.fw w (fun a j q => Or.inr (Or.inl q)) (fun a j q => q.elim)
theorem KT_p (k : KT h K B t) (w : fW (pA P) noR h h') (l : CL h X W K P B) : KT h' K B t := k.fw w (fun j q => l.1.1.2.2 q.1)
/-- the parser's error as it was -/
def smP (P : Nat) (h h' : XH) : Prop := xi h' P 2 = xi h P 2 ∧ xi h' P 3 = xi h P 3
theorem smP_r (P : Nat) (h : XH) : smP P h h := ⟨rfl, rfl⟩
theorem smP_t {h1 : XH} (p : smP P h h1) (q : smP P h1 h') : smP P h h' := ⟨q.1.trans p.1, q.2.trans p.2⟩
theorem smP_fw (w : fW A R h h') (q2 : ¬ A P 2) (q3 : ¬ A P 3) : smP P h h' := ⟨w.i q2, w.i q3⟩
theorem smP_k (w : fW (tA K) noR h h') (q : ¬ K = P) : smP P h h' := smP_fw w (fun z => q z.1.symm) (fun z => q z.1.symm)
/-- the end of a reading step: false and the error, or true -/
def cr (P : Nat) (e : ER) (v : Int32) (h0 h : XH) (Q : Prop) : Prop := match e with
  | some e => v = 0 ∧ xi h P 2 = nI e.1 ∧ xi h P 3 = nI e.2
  | none => v = 1 ∧ smP P h0 h ∧ Q
theorem refuse_o (l : CL h X W K P B) (kt : KT h K B t) (c : Nat) : xo (FX5_refuse E P (nI c) h) (fun v h' => v = 0 ∧ fW (pA P) noR h h' ∧ xi h' P 2 = nI c ∧ xi h' P 3 = nI (tkA t)) := by
  unfold FX5_refuse
  refine xo_g l.pk (xo_wi (fun h1 e1 => ?_))
  have w1 : fW (pA P) noR h h1 := fw_i e1 ⟨rfl, by omega⟩
  have l1 := l.fp w1
  have k1 := KT_p kt w1 l
  refine xo_g l1.pk (xo_n l1.pt (xo_g l1.kk (xo_g l1.pk (xo_wi (fun h2 e2 => xo_g (Or.inl rfl) (xo_v ⟨rfl, w1.trans (fw_i e2 ⟨rfl, by omega⟩), ?_, ?_⟩))))))
  · exact (e_o e2 (Or.inr (by decide))).trans (e_s e1)
  · exact (e_s e2).trans k1.1.1
theorem isNumber_o (l : CL h X W K P B) (kt : KT h K B t) (wk : WK B t) {lo hi : Nat} (h1 : lo < 100) (h2 : hi < 100) : xo (FX5_isNumber E P (nI lo) (nI hi) h) (fun v h' => fW (pA P) noR h h' ∧ cr P (eNu B lo hi t) v h h' True) := by
  have k4 := wk.2.2.2.2
  unfold FX5_isNumber
  refine xo_g l.pk (xo_n l.pt (xo_g l.kk ?_))
  rw [kt.1.2.2]
  by_cases c : tkK t = 2
  · have v100 := vlT_lt wk c
    refine xo_t (by rw [c]; rfl) (xo_g l.pk (xo_n l.pt (xo_g l.kk ?_)))
    rw [kt.2.2 c]
    have hh : (¬ nI (vlT B t) < nI lo ∧ ¬ nI hi < nI (vlT B t)) ↔ decide (lo ≤ vlT B t ∧ vlT B t ≤ hi) = true := by
      rw [nI_ltP (by omega) (by omega), nI_ltP (by omega) (by omega), decide_eq_true_eq]
      omega
    refine xo_eb (isBetween_v hh) (xo_jn (xo_jn ?_))
    by_cases c2 : lo ≤ vlT B t ∧ vlT B t ≤ hi
    · have e : eNu B lo hi t = none := by simp [eNu, ck, eo, c, c2]
      rw [decide_eq_true c2, e]
      refine xo_f (by decide) (xo_g (Or.inr rfl) (xo_v ⟨fW.refl _ _ _, rfl, smP_r _ _, trivial⟩))
    · have e : eNu B lo hi t = some (2, tkA t) := by
        unfold eNu ck
        rw [if_neg (by simp [c]), eo_n, if_pos (decide_eq_true c2)]
      rw [decide_eq_false c2, e]
      refine xo_t rfl (xo_g l.pk (xo_b (refuse_o l kt 2) (fun v h3 q => ?_)))
      obtain ⟨q1, q2, q3⟩ := q
      exact xo_t q1 (xo_g (Or.inl rfl) (xo_v ⟨q2, rfl, q3⟩))
  · have e : eNu B lo hi t = some (1, tkA t) := by
      unfold eNu ck
      rw [if_pos (by simp [c])]
      rfl
    rw [e]
    refine xo_f (by rw [li2, nI_eqP (by omega) (by omega)]; exact c) (xo_g l.pk (xo_b (refuse_o l kt 1) (fun v h3 q => xo_g (Or.inl q.1) (xo_v ⟨q.2.1, q.1, q.2.2⟩))))
/-- what is told so far, in the class's world -/
def CD (h : XH) (W : Nat) (S : SD) (T : ST) (D : Nat → Int32) : Prop := (∀ s, s < 3 → xi h (W + 1 + 3 * s) 2 = nI (scn S s)) ∧ (∀ g, g < sng S → xi h (W + 14 + 3 * g) 3 = nI (sgn S g) ∧ ∀ a b, a < sgn S g → b < sgn S g → xi h (W + 14 + 3 * g + 1) (8 * a + b) = nI (sgt S g a b)) ∧ (∀ m, m < snm S → (xr h (W + 32 + 8 * m) 1 = some (W + 14 + 3 * smu S m) ∧ xr h (W + 32 + 8 * m) 2 = some (W + 14 + 3 * sml S m)) ∧ xi h (W + 32 + 8 * m) 6 = D m ∧ (∀ a, a < nuS S m → xi h (W + 32 + 8 * m + 1) a = nI (tbd T m a)) ∧ ∀ g a, g < nlS2 S m → a < nuS S m → xi h (W + 32 + 8 * m + 2) (8 * g + a) = nI (tac T m g a)) ∧ (∀ a, a < sna S → (xr h (W + 80 + 3 * a) 0 = some (W + 32 + 8 * saf S a) ∧ xr h (W + 80 + 3 * a) 1 = some (W + 32 + 8 * sao S a)) ∧ (∀ x, x < nuS S (saf S a) → xi h (W + 80 + 3 * a + 1) x = nI (ttp T a x)) ∧ ∀ x, x < nlS2 S (saf S a) → xi h (W + 80 + 3 * a + 2) x = nI (tbt T a x)) ∧ (∀ w, w < 3 → xi h (W + 13) w = tcc T w) ∧ NC h W S
/-- the cells that hold it -/
def cdI (W : Nat) (S : SD) (a j : Nat) : Prop := (∃ s, s < 3 ∧ ((a = W + 1 + 3 * s ∧ j = 2) ∨ ((a = W + 2 + 3 * s ∨ a = W + 3 + 3 * s) ∧ j < scn S s))) ∨ (∃ g, g < sng S ∧ ((a = W + 14 + 3 * g ∧ j = 3) ∨ a = W + 14 + 3 * g + 1)) ∨ (∃ m, m < snm S ∧ ((a = W + 32 + 8 * m ∧ j = 6) ∨ a = W + 32 + 8 * m + 1 ∨ a = W + 32 + 8 * m + 2)) ∨ (∃ b, b < sna S ∧ (a = W + 80 + 3 * b + 1 ∨ a = W + 80 + 3 * b + 2)) ∨ a = W + 13
def cdR (W : Nat) (S : SD) (a j : Nat) : Prop := (∃ m, m < snm S ∧ a = W + 32 + 8 * m ∧ (j = 1 ∨ j = 2)) ∨ ∃ b, b < sna S ∧ a = W + 80 + 3 * b ∧ (j = 0 ∨ j = 1)
theorem CD.fw (c : CD h W S T D) (w : fW A R h h') (hA : ∀ a j, A a j → ¬ cdI W S a j) (hR : ∀ a j, R a j → ¬ cdR W S a j) : CD h' W S T D := by
  obtain ⟨c1, c2, c3, c4, c5, c6⟩ := c
  have ni : ∀ a j, cdI W S a j → xi h' a j = xi h a j ∧ xj h' a j = xj h a j := fun a j q => ⟨w.i (fun z => hA a j z q), w.j (fun z => hA a j z q)⟩
  have nr : ∀ a j, cdR W S a j → xr h' a j = xr h a j := fun a j q => w.r (fun z => hR a j z q)
  refine ⟨fun s hs => ?_, fun g hg => ⟨?_, fun a b ha hb => ?_⟩, fun m hm => ⟨⟨?_, ?_⟩, ?_, fun a ha => ?_, fun g a hg ha => ?_⟩, fun a ha => ⟨⟨?_, ?_⟩, fun x hx => ?_, fun x hx => ?_⟩, fun x hx => ?_, fun s k hs hk => ⟨?_, ?_⟩⟩
  · exact (ni _ _ (Or.inl ⟨s, hs, Or.inl ⟨rfl, rfl⟩⟩)).1.trans (c1 s hs)
  · exact (ni _ _ (Or.inr (Or.inl ⟨g, hg, Or.inl ⟨rfl, rfl⟩⟩))).1.trans (c2 g hg).1
  · exact (ni _ _ (Or.inr (Or.inl ⟨g, hg, Or.inr rfl⟩))).1.trans ((c2 g hg).2 a b ha hb)
  · exact (nr _ _ (Or.inl ⟨m, hm, rfl, Or.inl rfl⟩)).trans (c3 m hm).1.1
  · exact (nr _ _ (Or.inl ⟨m, hm, rfl, Or.inr rfl⟩)).trans (c3 m hm).1.2
  · exact (ni _ _ (Or.inr (Or.inr (Or.inl ⟨m, hm, Or.inl ⟨rfl, rfl⟩⟩)))).1.trans (c3 m hm).2.1
  · exact (ni _ _ (Or.inr (Or.inr (Or.inl ⟨m, hm, Or.inr (Or.inl rfl)⟩)))).1.trans ((c3 m hm).2.2.1 a ha)
  · exact (ni _ _ (Or.inr (Or.inr (Or.inl ⟨m, hm, Or.inr (Or.inr rfl)⟩)))).1.trans ((c3 m hm).2.2.2 g a hg ha)
  · exact (nr _ _ (Or.inr ⟨a, ha, rfl, Or.inl rfl⟩)).trans (c4 a ha).1.1
  · exact (nr _ _ (Or.inr ⟨a, ha, rfl, Or.inr rfl⟩)).trans (c4 a ha).1.2
  · exact (ni _ _ (Or.inr (Or.inr (Or.inr (Or.inl ⟨a, ha, Or.inl rfl⟩))))).1.trans ((c4 a ha).2.1 x hx)
  · exact (ni _ _ (Or.inr (Or.inr (Or.inr (Or.inl ⟨a, ha, Or.inr rfl⟩))))).1.trans ((c4 a ha).2.2 x hx)
  · exact (ni _ _ (Or.inr (Or.inr (Or.inr (Or.inr rfl))))).1.trans (c5 x hx)
  · exact (ni _ _ (Or.inl ⟨s, hs, Or.inr ⟨Or.inl rfl, hk⟩⟩)).2.trans (c6 s k hs hk).1
  · exact (ni _ _ (Or.inl ⟨s, hs, Or.inr ⟨Or.inr rfl, hk⟩⟩)).1.trans (c6 s k hs hk).2
/-- where a line that tells something new writes -/
def bA (W K P : Nat) (S : SD) : Nat → Nat → Prop := fun a j => (a = K ∧ 2 ≤ j) ∨ (a = P ∧ 2 ≤ j) ∨ (∃ s, s < 3 ∧ (a = W + 2 + 3 * s ∨ a = W + 3 + 3 * s) ∧ j = scn S s) ∨ (sng S < 6 ∧ ((a = W + 14 + 3 * sng S ∧ j = 3) ∨ a = W + 14 + 3 * sng S + 1)) ∨ (snm S < 6 ∧ ((a = W + 32 + 8 * snm S ∧ j = 6) ∨ a = W + 32 + 8 * snm S + 1 ∨ a = W + 32 + 8 * snm S + 2)) ∨ (sna S < 8 ∧ (a = W + 80 + 3 * sna S + 1 ∨ a = W + 80 + 3 * sna S + 2))
def bR (W : Nat) (S : SD) : Nat → Nat → Prop := fun a j => (snm S < 6 ∧ a = W + 32 + 8 * snm S ∧ (j = 1 ∨ j = 2)) ∨ (sna S < 8 ∧ a = W + 80 + 3 * sna S ∧ (j = 0 ∨ j = 1))
theorem bA_rd {a j : Nat} (q : bA W K P S a j) : rdA W K P a j := by
  unfold bA at q
  unfold rdA
  rcases q with q | q | ⟨s, hs, q⟩ | q | q | q
  · omega
  · omega
  · omega
  · omega
  · omega
  · omega
theorem bR_rd {a j : Nat} (q : bR W S a j) : rdR W a j := by
  unfold bR at q
  unfold rdR
  omega
theorem bA_cd {a j : Nat} (w : WS S) (g : CGe X W K P) (q : bA W K P S a j) : ¬ cdI W S a j := by
  obtain ⟨⟨g1, g2, g3⟩, g4⟩ := g
  obtain ⟨⟨w1, w2, w3⟩, -⟩ := w
  unfold bA at q
  intro z
  unfold cdI at z
  rcases z with ⟨s', hs', z⟩ | ⟨g', hg', z⟩ | ⟨m', hm', z⟩ | ⟨b', hb', z⟩ | z
  · rcases q with q | q | ⟨s, hs, q⟩ | q | q | q
    · omega
    · omega
    · by_cases e : s = s'
      · subst e; omega
      · omega
    · omega
    · omega
    · omega
  · rcases q with q | q | ⟨s, hs, q⟩ | q | q | q <;> omega
  · rcases q with q | q | ⟨s, hs, q⟩ | q | q | q <;> omega
  · rcases q with q | q | ⟨s, hs, q⟩ | q | q | q <;> omega
  · rcases q with q | q | ⟨s, hs, q⟩ | q | q | q <;> omega
theorem bR_cd {a j : Nat} (w : WS S) (q : bR W S a j) : ¬ cdR W S a j := by
  obtain ⟨⟨w1, w2, w3⟩, -⟩ := w
  unfold bR at q
  intro z
  unfold cdR at z
  rcases z with ⟨m', hm', z⟩ | ⟨b', hb', z⟩
  · omega
  · omega
theorem CD.fb (c : CD h W S T D) (w : fW (bA W K P S) (bR W S) h h') (ws : WS S) (g : CGe X W K P) : CD h' W S T D := c.fw w (fun a j q => bA_cd ws g q) (fun a j q => bR_cd ws q)
theorem CL.fb (l : CL h X W K P B) (w : fW (bA W K P S) (bR W S) h h') : CL h' X W K P B := l.fw w (fun a j q => bA_rd q) (fun a j q => bR_rd q)
theorem fw_tb (w : fW (tA K) noR h h') : fW (bA W K P S) (bR W S) h h' := w.wide (fun a j q => Or.inl q) (fun a j q => q.elim)
theorem fw_pb (w : fW (pA P) noR h h') : fW (bA W K P S) (bR W S) h h' := w.wide (fun a j q => Or.inr (Or.inl q)) (fun a j q => q.elim)
/-- the world's names of sort s -/
theorem CL.nr (l : CL h X W K P B) {s : Nat} (hs : s < 3) : xk h (W + 1 + 3 * s) = 4 ∧ xr h (W + 1 + 3 * s) 0 = some (W + 2 + 3 * s) ∧ xr h (W + 1 + 3 * s) 1 = some (W + 3 + 3 * s) ∧ xk h (W + 2 + 3 * s) = 13 ∧ xk h (W + 3 + 3 * s) = 12 ∧ xn h (W + 2 + 3 * s) = (if s = 2 then 8 else 6) ∧ xn h (W + 3 + 3 * s) = (if s = 2 then 8 else 6) ∧ xr h W s = some (W + 1 + 3 * s) := by
  have w0 := l.wl
  have wl := l.wl.2.1
  match s, hs with
  | 0, _ => exact ⟨w0.kn, (wl (1, 0, 2, 13, 6) (by decide)).1, (wl (1, 1, 3, 12, 6) (by decide)).1, (wl (1, 0, 2, 13, 6) (by decide)).2.1, (wl (1, 1, 3, 12, 6) (by decide)).2.1, (wl (1, 0, 2, 13, 6) (by decide)).2.2, (wl (1, 1, 3, 12, 6) (by decide)).2.2, w0.rn⟩
  | 1, _ => exact ⟨w0.km, (wl (4, 0, 5, 13, 6) (by decide)).1, (wl (4, 1, 6, 12, 6) (by decide)).1, (wl (4, 0, 5, 13, 6) (by decide)).2.1, (wl (4, 1, 6, 12, 6) (by decide)).2.1, (wl (4, 0, 5, 13, 6) (by decide)).2.2, (wl (4, 1, 6, 12, 6) (by decide)).2.2, w0.rm⟩
  | 2, _ => exact ⟨w0.ka, (wl (7, 0, 8, 13, 8) (by decide)).1, (wl (7, 1, 9, 12, 8) (by decide)).1, (wl (7, 0, 8, 13, 8) (by decide)).2.1, (wl (7, 1, 9, 12, 8) (by decide)).2.1, (wl (7, 0, 8, 13, 8) (by decide)).2.2, (wl (7, 1, 9, 12, 8) (by decide)).2.2, w0.ra⟩
def mxS (s : Nat) : Nat := if s = 2 then 8 else 6
theorem scn_mx (w : WS S) {s : Nat} (hs : s < 3) : scn S s ≤ mxS s := by
  have c := w.1
  match s, hs with
  | 0, _ => exact c.1
  | 1, _ => exact c.2.1
  | 2, _ => exact c.2.2
theorem mxS_8 (s : Nat) : mxS s ≤ 8 := by unfold mxS; split <;> omega
theorem ofN64 {a b : Nat} (ha : a < 2 ^ 60) (hb : b < 2 ^ 60) : Int64.ofNat a = Int64.ofNat b ↔ a = b := by
  refine ⟨fun e => ?_, fun e => by rw [e]⟩
  have := congrArg (fun x : Int64 => x.toBitVec.toNat) e
  have z : (BitVec.ofNat 64 a).toNat = (BitVec.ofNat 64 b).toNat := this
  rw [BitVec.toNat_ofNat, BitVec.toNat_ofNat, Nat.mod_eq_of_lt (by omega), Nat.mod_eq_of_lt (by omega)] at z
  exact z
theorem pkN_60 {w : List Nat} (h1 : w.length ≤ 10) (h2 : ∀ c ∈ w, 97 ≤ c ∧ c ≤ 122) : pkN w < 2 ^ 60 := Nat.lt_of_lt_of_le (pkN_lt _ h2) (Nat.le_trans (Nat.pow_le_pow_right (by decide) h1) (by decide))
theorem numberOf_v (l : CL h X W K P B) (c : CD h W S T D) (ws : WS S) (nm : WNm S) {s : Nat} (hs : s < 3) {w : List Nat} (hw : (1 ≤ w.length ∧ w.length ≤ 10) ∧ ∀ c ∈ w, 97 ≤ c ∧ c ≤ 122) : FX3_numberOf E (W + 1 + 3 * s) (Int64.ofNat (pkN w)) h = xv (if nmI S s w < scn S s then nI (nmI S s w) else -1) h := by
  obtain ⟨n1, n2, n3, n4, n5, n6, n7, n8⟩ := l.nr hs
  have mx := scn_mx ws hs
  have m8 := mxS_8 s
  have le : nmI S s w ≤ scn S s := fi_le _ _
  have n6 : xn h (W + 2 + 3 * s) = mxS s := n6
  have cn := c.1 s hs
  have cc := c.2.2.2.2.2
  unfold FX3_numberOf
  refine xlp_inv (Po := fun m => m = xv (if nmI S s w < scn S s then nI (nmI S s w) else -1) h) (fun i s' h' => s' = nI i ∧ h' = h) (nmI S s w) (by omega) (fun i s' h' ag hi I again => ?_) ⟨rfl, rfl⟩
  obtain ⟨rfl, rfl⟩ := I
  (try dsimp only); (rw [xg_t (n1), xjn_d, cn])
  by_cases q : i = scn S s
  · rw [if_pos (show nI (scn S s) ≤ nI i by rw [q]; exact Int32.le_refl _), if_neg (by omega)]
  · have g : xk h' (W + 2 + 3 * s) = 13 ∧ xin (nI i) (xn h' (W + 2 + 3 * s)) := ⟨n4, by rw [n6]; exact xin_nI (by omega) (by omega)⟩
    have c2 : ¬ nI (scn S s) ≤ nI i := by rw [nI_leP (by omega) (by omega)]; omega
    have c3 : ¬ Int32.ofNat (mxS s) ≤ nI i := by rw [ofNat_nI, nI_leP (by omega) (by omega)]; omega
    have hm := nm s i hs (by omega)
    (try dsimp only); (rw [if_neg c2, xg_t (n1), xnn_e (n2), xg_t (n4), n6, if_neg c3, xg_t (n1), xnn_e (n2), xg_t (g), xz_nI (n := i) (by omega), (cc s i hs (by omega)).1])
    by_cases e : i = nmI S s w
    · have e2 : snn S s i = w := by
        have := fi_yes (m := scn S s) (P := fun k => decide (snn S s k = w)) (show nmI S s w < scn S s by omega)
        have := of_decide_eq_true this
        rw [e]; exact this
      rw [if_pos (by rw [e2, lg_cmp_eq]), if_pos (by omega), e]
    · have hlt : i < nmI S s w := by omega
      have e2 : ¬ snn S s i = w := of_decide_eq_false (fi_not (m := scn S s) (P := fun k => decide (snn S s k = w)) hlt)
      have e3 : ¬ lg_cmp (Int64.ofNat (pkN (snn S s i))) (Int64.ofNat (pkN w)) = 0 := by
        rw [lg_cmp_eq, ofN64 (pkN_60 hm.1.2 hm.2) (pkN_60 hw.1.2 hw.2)]
        exact fun z => e2 (pkN_inj _ hm.2 hw.2 z)
      rw [if_neg e3, nI_s]
      exact again hlt _ _ ⟨rfl, rfl⟩
theorem isKnown_o (l : CL h X W K P B) (c : CD h W S T D) (ws : WS S) (nm : WNm S) (kt : KT h K B t) (wk : WK B t) {s : Nat} (hs : s < 3) : xo (FX5_isKnown E P (W + 1 + 3 * s) h) (fun v h' => fW (pA P) noR h h' ∧ cr P (eKn B S s t) v h h' True) := by
  have k4 := wk.2.2.2.2
  have mx := scn_mx ws hs
  have m8 := mxS_8 s
  unfold FX5_isKnown
  refine xo_g l.pk (xo_n l.pt (xo_g l.kk ?_))
  rw [kt.1.2.2]
  by_cases q : tkK t = 1
  · refine xo_t (by rw [q]; rfl) (xo_g l.pk (xo_n l.pt (xo_g l.kk (xo_g (l.nr hs).1 ?_))))
    rw [kt.2.1 q]
    refine xo_eb (numberOf_v l c ws nm hs (wdT_ok wk q)) (xo_jn (xo_jn ?_))
    by_cases q2 : nmI S s (wdT B t) < scn S s
    · have e : eKn B S s t = none := by simp [eKn, ck, eo, q, q2]
      rw [if_pos q2, e]
      refine xo_f (nI_ng1 (by omega)) (xo_g (Or.inr rfl) (xo_v ⟨fW.refl _ _ _, rfl, smP_r _ _, trivial⟩))
    · have e : eKn B S s t = some (3, tkA t) := by
        unfold eKn ck
        rw [if_neg (by simp [q]), eo_n, if_pos (by simpa using q2)]
      rw [if_neg q2, e]
      refine xo_t rfl (xo_g l.pk (xo_b (refuse_o l kt 3) (fun v h3 q => ?_)))
      obtain ⟨q1, q2, q3⟩ := q
      exact xo_t q1 (xo_g (Or.inl rfl) (xo_v ⟨q2, rfl, q3⟩))
  · have e : eKn B S s t = some (1, tkA t) := by
      unfold eKn ck
      rw [if_pos (by simp [q])]
      rfl
    rw [e]
    refine xo_f (by rw [li1, nI_eqP (by omega) (by omega)]; exact q) (xo_g l.pk (xo_b (refuse_o l kt 1) (fun v h3 q => xo_g (Or.inl q.1) (xo_v ⟨q.2.1, q.1, q.2.2⟩))))
theorem groupTold_v (l : CL h X W K P B) (c : CD h W S T D) (ws : WS S) (nm : WNm S) (kt : KT h K B t) (wk : WK B t) (e : eKn B S 0 t = none) : FX5_groupTold E P h = xv (W + 14 + 3 * nmI S 0 (wdT B t)) h := by
  obtain ⟨e1, e2⟩ := eKn_0 e
  have h6 := ws.1.1
  have e3 : nmI S 0 (wdT B t) < sng S := e2
  have w := l.wl
  unfold FX5_groupTold
  (try dsimp only); (rw [xg_t (l.pk), xnn_e (l.pw), xg_t (l.wk), xnn_e (w.rn), xg_t (l.pk), xnn_e (l.pt), xg_t (l.kk), xg_t (w.kn), kt.2.1 e1, xb_eq (numberOf_v l c ws nm (show 0 < 3 by decide) (wdT_ok wk e1)), if_pos e2, xg_t (l.pk), xnn_e (l.pw), xg_t (l.wk), xnn_e (w.r10), xjn_d, if_neg (show ¬ nI (nmI S 0 (wdT B t)) < 0 by rw [nI_lt0 (by omega)]; exact id)])
  (try dsimp only); (rw [xg_t (show xk h (W + 10) = 17 ∧ xin (nI (nmI S 0 (wdT B t))) (xn h (W + 10)) from ⟨w.k10, by rw [w.n10]; exact xin_nI (by omega) (by omega)⟩), xnn_e (w.g (show nmI S 0 (wdT B t) < 6 by omega))])
theorem moduleTold_v (l : CL h X W K P B) (c : CD h W S T D) (ws : WS S) (nm : WNm S) (kt : KT h K B t) (wk : WK B t) (e : eKn B S 1 t = none) : FX5_moduleTold E P h = xv (W + 32 + 8 * nmI S 1 (wdT B t)) h := by
  obtain ⟨e1, e2⟩ := eKn_0 e
  have h6 := ws.1.2.1
  have e3 : nmI S 1 (wdT B t) < snm S := e2
  have w := l.wl
  unfold FX5_moduleTold
  (try dsimp only); (rw [xg_t (l.pk), xnn_e (l.pw), xg_t (l.wk), xnn_e (w.rm), xg_t (l.pk), xnn_e (l.pt), xg_t (l.kk), xg_t (w.km), kt.2.1 e1, xb_eq (numberOf_v l c ws nm (show 1 < 3 by decide) (wdT_ok wk e1)), if_pos e2, xg_t (l.pk), xnn_e (l.pw), xg_t (l.wk), xnn_e (w.r11), xjn_d, if_neg (show ¬ nI (nmI S 1 (wdT B t)) < 0 by rw [nI_lt0 (by omega)]; exact id)])
  (try dsimp only); (rw [xg_t (show xk h (W + 11) = 16 ∧ xin (nI (nmI S 1 (wdT B t))) (xn h (W + 11)) from ⟨w.k11, by rw [w.n11]; exact xin_nI (by omega) (by omega)⟩), xnn_e (w.m (show nmI S 1 (wdT B t) < 6 by omega))])
/-- the first word of a line that tells something new, and its name -/
theorem readNewName_o (l : CL h X W K P B) (c : CD h W S T D) (ws : WS S) (nm : WNm S) (kt : KT h K B t) (wk : WK B t) {s : Nat} (hs : s < 3) : xo (FX5_readNewName E P (W + 1 + 3 * s) h) (fun v h' => fW (bA W K P S) (bR W S) h h' ∧ cr P (eo (ck (decide (scn S s = mxS s)) 4 t) (eNm B S s (nx B t))) v h h' (scn S s < mxS s ∧ KT h' K B (nx B (nx B t)) ∧ xj h' (W + 2 + 3 * s) (scn S s) = Int64.ofNat (pkN (wdT B (nx B t))) ∧ xi h' (W + 3 + 3 * s) (scn S s) = nI (wdT B (nx B t)).length)) := by
  obtain ⟨⟨g1, g2, g3⟩, g4⟩ := l.1
  obtain ⟨n1, n2, n3, n4, n5, n6, n7, n8⟩ := l.nr hs
  have n6 : xn h (W + 2 + 3 * s) = mxS s := n6
  have mx := scn_mx ws hs
  have m8 := mxS_8 s
  have cn := c.1 s hs
  have hF : FX3_isFull E (W + 1 + 3 * s) h = xv (bI (decide (scn S s = mxS s))) h := by
    unfold FX3_isFull
    (try dsimp only); (rw [xg_t (n1), xg_t (n1), xnn_e (n2), xg_t (n4), n6, xjn_d, cn])
    by_cases q : scn S s = mxS s
    · rw [if_neg (by rw [ofNat_nI, nI_ltP (by omega) (by omega)]; omega), decide_eq_true q]
      exact xg_t (Or.inr rfl)
    · rw [if_pos (by rw [ofNat_nI, nI_ltP (by omega) (by omega)]; omega), decide_eq_false q]
      exact xg_t (Or.inl rfl)
  unfold FX5_readNewName
  refine xo_g n1 (xo_eb hF ?_)
  by_cases q : scn S s = mxS s
  · rw [decide_eq_true q]
    refine xo_f (by decide) (xo_g l.pk (xo_b (refuse_o l kt 4) (fun v h3 q => xo_g (Or.inl q.1) (xo_v ⟨fw_pb q.2.1, q.1, q.2.2⟩))))
  · rw [decide_eq_false q]
    refine xo_t rfl (xo_g l.pk (xo_n l.pt (xo_g l.kk (xo_b (adv_o l.kl wk kt) (fun _ h1 q1 => ?_)))))
    obtain ⟨w1, k1⟩ := q1
    have v1 : fW (bA W K P S) (bR W S) h h1 := fw_tb w1
    have l1 := l.fb v1
    have c1 := c.fb v1 ws l.1
    have wk1 := nx_wk wk
    have k41 := wk1.2.2.2.2
    refine xo_g l1.pk (xo_n l1.pt (xo_g l1.kk ?_))
    rw [k1.1.2.2]
    show xo _ (fun v h' => _ ∧ cr P (eNm B S s (nx B t)) v h h' _)
    by_cases q2 : tkK (nx B t) = 1
    · have ok := wdT_ok wk1 q2
      refine xo_t (by rw [q2]; rfl) (xo_g l1.pk (xo_n l1.pt (xo_g l1.kk (xo_g (l1.nr hs).1 ?_))))
      rw [k1.2.1 q2]
      refine xo_eb (numberOf_v l1 c1 ws nm hs ok) ?_
      by_cases q3 : nmI S s (wdT B (nx B t)) < scn S s
      · have e : eNm B S s (nx B t) = some (3, tkA (nx B t)) := by
          unfold eNm ck
          rw [if_neg (by simp [q2]), eo_n, if_pos (by simpa using q3)]
        rw [if_pos q3, e]
        refine xo_f (nI_ng1 (by omega)) (xo_g l1.pk (xo_b (refuse_o l1 k1 3) (fun v h3 q => xo_g (Or.inl q.1) (xo_v ⟨v1.trans (fw_pb q.2.1), q.1, q.2.2⟩))))
      · have e : eNm B S s (nx B t) = none := by simp [eNm, ck, eo, q2, q3]
        rw [if_neg q3, e]
        obtain ⟨m1, m2, m3, m4, m5, m6, m7, m8'⟩ := l1.nr hs
        have m6 : xn h1 (W + 2 + 3 * s) = mxS s := m6
        have m7 : xn h1 (W + 3 + 3 * s) = mxS s := m7
        have cn1 := c1.1 s hs
        have lt : scn S s < mxS s := by omega
        refine xo_t rfl (xo_g l1.pk (xo_n l1.pt (xo_g l1.kk (xo_g l1.pk (xo_n l1.pt (xo_g l1.kk (xo_g l1.pk (xo_n l1.pt (xo_g l1.kk (xo_g m1 ?_))))))))))
        rw [k1.2.1 q2, k1.1.2.1, k1.1.1, pk_sub wk1.1.1, ← wdT_len]
        have hN : xo (FX3_noteNext E (W + 1 + 3 * s) (Int64.ofNat (pkN (wdT B (nx B t)))) (nI (wdT B (nx B t)).length) h1) (fun _ h' => fW (fun a j => (a = W + 2 + 3 * s ∨ a = W + 3 + 3 * s) ∧ j = scn S s) noR h1 h' ∧ xj h' (W + 2 + 3 * s) (scn S s) = Int64.ofNat (pkN (wdT B (nx B t))) ∧ xi h' (W + 3 + 3 * s) (scn S s) = nI (wdT B (nx B t)).length) := by
          unfold FX3_noteNext
          refine xo_g m1 (xo_g m1 (xo_n m2 (xo_g m4 (xo_jn ?_))))
          rw [m6, cn1]
          refine xo_f (by rw [ofNat_nI, nI_leP (by omega) (by omega)]; omega) (xo_g m1 (xo_n m2 (xo_g m1 (xo_g ⟨m4, by rw [m6]; exact xin_nI lt (by omega)⟩ ?_))))
          rw [xz_nI (by omega)]
          refine xo_wj (fun h2 e2 => ?_)
          have w2 : fW (fun a j => (a = W + 2 + 3 * s ∨ a = W + 3 + 3 * s) ∧ j = scn S s) noR h1 h2 := fw_j e2 ⟨Or.inl rfl, rfl⟩ (Or.inl m4)
          refine xo_g ((w2.k _).trans m1) (xo_n ((w2.rn _ _).trans m3) (xo_g ((w2.k _).trans m1) ?_))
          rw [(e_ji e2).trans cn1]
          refine xo_eb (FX8_put_in ((w2.k _).trans m5) ((w2.n _).trans m7) lt (by omega)) (xo_v ⟨w2.trans (fw_i rfl ⟨Or.inr rfl, rfl⟩), ?_, xi_yi1 _ _ _ _⟩)
          exact (xj_yi h2 _ _ _ _ _).trans (e_j e2)
        refine xo_b hN (fun _ h2 z => ?_)
        obtain ⟨w2, z1, z2⟩ := z
        have v2 : fW (bA W K P S) (bR W S) h h2 := v1.trans (w2.wide (fun a j q => Or.inr (Or.inr (Or.inl ⟨s, hs, q⟩))) (fun a j q => q.elim))
        have l2 := l.fb v2
        have k2 : KT h2 K B (nx B t) := k1.fw w2 (fun j q => by omega)
        refine xo_g l2.pk (xo_n l2.pt (xo_g l2.kk (xo_b (adv_o l2.kl wk1 k2) (fun _ h3 q4 => ?_))))
        obtain ⟨w3, k3⟩ := q4
        refine xo_g (Or.inr rfl) (xo_v ⟨v2.trans (fw_tb w3), rfl, smP_t (smP_t (smP_k w1 g3) (smP_fw w2 (fun q => by omega) (fun q => by omega))) (smP_k w3 g3), lt, k3, ?_, ?_⟩)
        · rw [w3.j (fun q => by have := q.1; omega)]; exact z1
        · rw [w3.i (fun q => by have := q.1; omega)]; exact z2
    · have e : eNm B S s (nx B t) = some (1, tkA (nx B t)) := by
        unfold eNm ck
        rw [if_pos (by simp [q2])]
        rfl
      rw [e]
      refine xo_f (by rw [li1, nI_eqP (by omega) (by omega)]; exact q2) (xo_g l1.pk (xo_b (refuse_o l1 k1 1) (fun v h3 q => xo_g (Or.inl q.1) (xo_v ⟨v1.trans (fw_pb q.2.1), q.1, q.2.2⟩))))
/-- elements of one group for each of another one -/
def eA (K P R0 from' n : Nat) : Nat → Nat → Prop := fun a j => (a = K ∧ 2 ≤ j) ∨ (a = P ∧ 2 ≤ j) ∨ (a = R0 ∧ from' ≤ j ∧ j < from' + n)
theorem readElements_o (l : CL h X W K P B) (kt : KT h K B t) (wk : WK B t) {R0 fr n m U V len : Nat} (hR : xk h R0 = 12 ∧ xn h R0 = len ∧ fr + n ≤ len ∧ len ≤ 64) (hR2 : ∀ j, rdA W K P R0 j) (hR3 : W + 32 < R0 ∧ R0 < W + 104) (hU : xk h U = 3 ∧ xi h U 3 = nI n ∧ U < W + 32) (hV : xk h V = 3 ∧ xi h V 3 = nI m ∧ 0 < m ∧ m ≤ 8 ∧ V < W + 32) (hn : n ≤ 8) : xo (FX5_readElements E P R0 (nI fr) U V h) (fun v h' => fW (eA K P R0 fr n) noR h h' ∧ cr P (eEl B (m - 1) t n) v h h' (KT h' K B (nxn B t n) ∧ ∀ i, i < n → xi h' R0 (fr + i) = nI (tEl B t i))) := by
  obtain ⟨⟨g1, g2, g3⟩, g4⟩ := l.1
  obtain ⟨r1, r2, r3, r4⟩ := hR
  obtain ⟨u1, u2, u3⟩ := hU
  obtain ⟨v1, v2, v3, v4, v5⟩ := hV
  have hrd : ∀ a j, eA K P R0 fr n a j → rdA W K P a j := fun a j q => by
    rcases q with q | q | q
    · exact Or.inl q
    · exact Or.inr (Or.inl q)
    · rw [q.1]; exact hR2 j
  unfold FX5_readElements
  refine xlp_inv (Po := fun m => xo m _) (fun i s' h' => s' = nI i ∧ (fW (eA K P R0 fr n) noR h h' ∧ smP P h h') ∧ eEl B (m - 1) t i = none ∧ KT h' K B (nxn B t i) ∧ ∀ k, k < i → xi h' R0 (fr + k) = nI (tEl B t k)) n (by omega) (fun i s' h' ag hi I again => ?_) ⟨rfl, ⟨fW.refl _ _ _, smP_r _ _⟩, rfl, kt, fun k hk => absurd hk (Nat.not_lt_zero _)⟩
  obtain ⟨rfl, ⟨w1, sm1⟩, e1, k1, q1⟩ := I
  have l1 := l.fw w1 hrd (fun a j q => q.elim)
  have eU : xi h' U 3 = nI n := (w1.i (fun q => by unfold eA at q; omega)).trans u2
  have eV : xi h' V 3 = nI m := (w1.i (fun q => by unfold eA at q; omega)).trans v2
  refine xo_g ((w1.k _).trans u1) ?_
  rw [eU]
  by_cases e : i = n
  · subst e
    refine xo_t (Int32.le_refl _) (xo_g (Or.inr rfl) (xo_v ⟨w1, ?_⟩))
    rw [e1]
    exact ⟨rfl, sm1, k1, q1⟩
  · have hlt : i < n := by omega
    have wki := nxn_wk wk i
    refine xo_f (nI_ge hlt (by omega)) (xo_g ((w1.k _).trans v1) (xo_g l1.pk ?_))
    rw [eV, nI_p _ (by omega) v3]
    refine xo_b (isNumber_o (lo := 0) l1 k1 wki (by omega) (by omega)) (fun v h2 q2 => ?_)
    obtain ⟨w2, q2⟩ := q2
    have w2' : fW (eA K P R0 fr n) noR h h2 := w1.trans (w2.wide (fun a j q => Or.inr (Or.inl q)) (fun a j q => q))
    have l2 := l.fw w2' hrd (fun a j q => q.elim)
    have k2 := KT_p k1 w2 l1
    have e2 : eEl B (m - 1) t (i + 1) = eNu B 0 (m - 1) (nxn B t i) := by
      show eo (eEl B (m - 1) t i) _ = _
      rw [e1]; rfl
    cases hE : eNu B 0 (m - 1) (nxn B t i) with
    | some er =>
      rw [hE] at q2
      refine xo_t q2.1 (xo_g (Or.inl rfl) (xo_v ⟨w2', ?_⟩))
      have e3 : ∀ k, i + 1 ≤ k → eEl B (m - 1) t k = some er := by
        intro k hk
        induction k with
        | zero => omega
        | succ k ih =>
          by_cases z : k = i
          · rw [z, e2, hE]
          · show eo (eEl B (m - 1) t k) _ = _
            rw [ih (by omega)]; rfl
      rw [e3 n (by omega)]
      exact ⟨rfl, q2.2⟩
    | none =>
      rw [hE] at q2
      obtain ⟨n1, n2, n3⟩ := eNu_0 hE
      have k6 := k2.2.2 n1
      refine xo_f (by rw [q2.1]; decide) (xo_g l2.pk (xo_n l2.pt (xo_g l2.kk ?_)))
      rw [nI_a, k6]
      refine xo_eb (FX8_put_in (n := len) ((w2'.k _).trans r1) ((w2'.n _).trans r2) (by omega) (by omega)) ?_
      obtain ⟨h3, e3⟩ : ∃ h3, h3 = yi h2 R0 (fr + i) (nI (vlT B (nxn B t i))) := ⟨_, rfl⟩
      rw [← e3]
      have w3 : fW (eA K P R0 fr n) noR h h3 := w2'.trans (fw_i e3 (Or.inr (Or.inr ⟨rfl, by omega, by omega⟩)))
      have l3 := l.fw w3 hrd (fun a j q => q.elim)
      have k3 : KT h3 K B (nxn B t i) := k2.fw (A := fun a j => a = R0) (R := noR) (fw_i e3 rfl) (fun j q => by omega)
      refine xo_g l3.pk (xo_n l3.pt (xo_g l3.kk (xo_b (adv_o l3.kl wki k3) (fun _ h4 q4 => ?_))))
      obtain ⟨w4, k4⟩ := q4
      rw [nI_s]
      refine again hlt _ _ ⟨rfl, ⟨w3.trans (w4.wide (fun a j q => Or.inl q) (fun a j q => q)), smP_t (smP_t (smP_t sm1 q2.2.1) ⟨e_o e3 (Or.inl (by omega)), e_o e3 (Or.inl (by omega))⟩) (smP_k w4 g3)⟩, by rw [e2, hE], k4, fun k hk => ?_⟩
      rw [w4.i (fun q => by have := q.1; omega)]
      by_cases z : k = i
      · rw [z]; exact e_s e3
      · rw [e_o e3 (Or.inr (by omega)), w2.i (fun q => by have := q.1; omega)]
        exact q1 k (by omega)
end CLS
