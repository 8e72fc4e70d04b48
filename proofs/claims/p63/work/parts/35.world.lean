/-! The class's world: S and T in it. -/
set_option linter.unusedVariables false
def wT : List (Nat × Nat × Nat × Nat × Nat) := [(0, 0, 1, 4, 0), (1, 0, 2, 13, 6), (1, 1, 3, 12, 6), (0, 1, 4, 4, 0), (4, 0, 5, 13, 6), (4, 1, 6, 12, 6), (0, 2, 7, 4, 0), (7, 0, 8, 13, 8), (7, 1, 9, 12, 8), (0, 3, 10, 17, 6), (0, 4, 11, 16, 6), (0, 5, 12, 15, 8), (0, 6, 13, 12, 3)]
/-- how the world at W lies -/
def WL (h : XH) (W : Nat) : Prop := xk h W = 8 ∧ (∀ q ∈ wT, xr h (W + q.1) q.2.1 = some (W + q.2.2.1) ∧ xk h (W + q.2.2.1) = q.2.2.2.1 ∧ xn h (W + q.2.2.1) = q.2.2.2.2) ∧ (∀ g, g < 6 → xr h (W + 10) g = some (W + 14 + 3 * g) ∧ GL h (W + 14 + 3 * g)) ∧ (∀ m, m < 6 → xr h (W + 11) m = some (W + 32 + 8 * m) ∧ ML h (W + 32 + 8 * m)) ∧ ∀ a, a < 8 → xr h (W + 12) a = some (W + 80 + 3 * a) ∧ AL h (W + 80 + 3 * a)
theorem WL.rn {h : XH} {W : Nat} (w : WL h W) : xr h W 0 = some (W + 1) := (w.2.1 (0, 0, 1, 4, 0) (by decide)).1
theorem WL.rm {h : XH} {W : Nat} (w : WL h W) : xr h W 1 = some (W + 4) := (w.2.1 (0, 1, 4, 4, 0) (by decide)).1
theorem WL.ra {h : XH} {W : Nat} (w : WL h W) : xr h W 2 = some (W + 7) := (w.2.1 (0, 2, 7, 4, 0) (by decide)).1
theorem WL.kn {h : XH} {W : Nat} (w : WL h W) : xk h (W + 1) = 4 := (w.2.1 (0, 0, 1, 4, 0) (by decide)).2.1
theorem WL.km {h : XH} {W : Nat} (w : WL h W) : xk h (W + 4) = 4 := (w.2.1 (0, 1, 4, 4, 0) (by decide)).2.1
theorem WL.ka {h : XH} {W : Nat} (w : WL h W) : xk h (W + 7) = 4 := (w.2.1 (0, 2, 7, 4, 0) (by decide)).2.1
theorem WL.r10 {h : XH} {W : Nat} (w : WL h W) : xr h W 3 = some (W + 10) := (w.2.1 (0, 3, 10, 17, 6) (by decide)).1
theorem WL.k10 {h : XH} {W : Nat} (w : WL h W) : xk h (W + 10) = 17 := (w.2.1 (0, 3, 10, 17, 6) (by decide)).2.1
theorem WL.n10 {h : XH} {W : Nat} (w : WL h W) : xn h (W + 10) = 6 := (w.2.1 (0, 3, 10, 17, 6) (by decide)).2.2
theorem WL.r11 {h : XH} {W : Nat} (w : WL h W) : xr h W 4 = some (W + 11) := (w.2.1 (0, 4, 11, 16, 6) (by decide)).1
theorem WL.k11 {h : XH} {W : Nat} (w : WL h W) : xk h (W + 11) = 16 := (w.2.1 (0, 4, 11, 16, 6) (by decide)).2.1
theorem WL.n11 {h : XH} {W : Nat} (w : WL h W) : xn h (W + 11) = 6 := (w.2.1 (0, 4, 11, 16, 6) (by decide)).2.2
theorem WL.r12 {h : XH} {W : Nat} (w : WL h W) : xr h W 5 = some (W + 12) := (w.2.1 (0, 5, 12, 15, 8) (by decide)).1
theorem WL.k12 {h : XH} {W : Nat} (w : WL h W) : xk h (W + 12) = 15 := (w.2.1 (0, 5, 12, 15, 8) (by decide)).2.1
theorem WL.n12 {h : XH} {W : Nat} (w : WL h W) : xn h (W + 12) = 8 := (w.2.1 (0, 5, 12, 15, 8) (by decide)).2.2
theorem WL.r13 {h : XH} {W : Nat} (w : WL h W) : xr h W 6 = some (W + 13) := (w.2.1 (0, 6, 13, 12, 3) (by decide)).1
theorem WL.k13 {h : XH} {W : Nat} (w : WL h W) : xk h (W + 13) = 12 := (w.2.1 (0, 6, 13, 12, 3) (by decide)).2.1
theorem WL.n13 {h : XH} {W : Nat} (w : WL h W) : xn h (W + 13) = 3 := (w.2.1 (0, 6, 13, 12, 3) (by decide)).2.2
theorem WL.g {h : XH} {W : Nat} (w : WL h W) {g : Nat} (hg : g < 6) : xr h (W + 10) (nI g).toNatClampNeg = some (W + 14 + 3 * g) := by rw [xz_nI (by omega)]; exact (w.2.2.1 g hg).1
theorem WL.m {h : XH} {W : Nat} (w : WL h W) {m : Nat} (hm : m < 6) : xr h (W + 11) (nI m).toNatClampNeg = some (W + 32 + 8 * m) := by rw [xz_nI (by omega)]; exact (w.2.2.2.1 m hm).1
theorem WL.a {h : XH} {W : Nat} (w : WL h W) {a : Nat} (ha : a < 8) : xr h (W + 12) (nI a).toNatClampNeg = some (W + 80 + 3 * a) := by rw [xz_nI (by omega)]; exact (w.2.2.2.2 a ha).1
theorem WL_iw {h h' : XH} {W : Nat} {B : Nat → Prop} (w : WL h W) (i : iw B h h') : WL h' W := by obtain ⟨f, rfl, -⟩ := i; exact w
def WN (h : XH) (W : Nat) : Prop := (∀ g, g < 6 → xi h (W + 14 + 3 * g) 0 = nI g) ∧ ∀ m, m < 6 → xi h (W + 32 + 8 * m) 0 = nI m
def WTo (h : XH) (W : Nat) (S : SD) : Prop := xi h (W + 1) 2 = nI (sng S) ∧ xi h (W + 4) 2 = nI (snm S) ∧ xi h (W + 7) 2 = nI (sna S)
/-- S in the world -/
def CS (h : XH) (W : Nat) (S : SD) : Prop := (WL h W ∧ WN h W) ∧ WTo h W S ∧ (∀ g, g < sng S → xi h (W + 14 + 3 * g) 3 = nI (sgn S g) ∧ (∀ a b, a < sgn S g → b < sgn S g → xi h (W + 14 + 3 * g + 1) (8 * a + b) = nI (sgt S g a b)) ∧ ∀ a, a < sgn S g → xi h (W + 14 + 3 * g + 2) a = nI (sgv S g a)) ∧ (∀ m, m < snm S → xr h (W + 32 + 8 * m) 1 = some (W + 14 + 3 * smu S m) ∧ xr h (W + 32 + 8 * m) 2 = some (W + 14 + 3 * sml S m)) ∧ ∀ a, a < sna S → xr h (W + 80 + 3 * a) 0 = some (W + 32 + 8 * saf S a) ∧ xr h (W + 80 + 3 * a) 1 = some (W + 32 + 8 * sao S a)
/-- T in the world -/
def CTc (h : XH) (W : Nat) (S : SD) (T : ST) : Prop := (∀ m a, m < snm S → a < nuS S m → xi h (W + 32 + 8 * m + 1) a = nI (tbd T m a)) ∧ (∀ m g a, m < snm S → g < nlS2 S m → a < nuS S m → xi h (W + 32 + 8 * m + 2) (8 * g + a) = nI (tac T m g a)) ∧ (∀ m, m < snm S → xi h (W + 32 + 8 * m) 7 = nI (whS S T m)) ∧ (∀ a x, a < sna S → x < nuS S (saf S a) → xi h (W + 80 + 3 * a + 1) x = nI (ttp T a x)) ∧ (∀ a x, a < sna S → x < nlS2 S (saf S a) → xi h (W + 80 + 3 * a + 2) x = nI (tbt T a x)) ∧ ∀ w, w < 3 → xi h (W + 13) w = tcc T w
def CI (h : XH) (W : Nat) (S : SD) (T : ST) : Prop := (WS S ∧ WT S T) ∧ CS h W S ∧ CTc h W S T
/-- where pairs are written -/
def rPW (W a : Nat) : Prop := W + 32 ≤ a ∧ a < W + 80 ∧ 3 ≤ (a - (W + 32)) % 8
theorem rPW_of {W m a : Nat} (hm : m < 6) (q : rPairs (W + 32 + 8 * m) a) : rPW W a := by
  unfold rPairs at q
  unfold rPW
  omega
section CIS
variable {E : XG} {h : XH} {W : Nat} {S : SD} {T : ST}
theorem CI.wl (M : CI h W S T) : WL h W := M.2.1.1.1
theorem CI.gd (M : CI h W S T) {m : Nat} (hm : m < snm S) : GD (mdS S T m) := M.1.1.gd hm
theorem CI.wd (M : CI h W S T) {m : Nat} (hm : m < snm S) : Wd (mdS S T m) := M.1.1.wd M.1.2 hm
theorem CS.gt (M : CS h W S) (w : WS S) {g : Nat} (hg : g < sng S) : GL h (W + 14 + 3 * g) ∧ GT h (W + 14 + 3 * g) (sgn S g) (sgt S g) ∧ GV h (W + 14 + 3 * g) (sgn S g) (sgv S g) := by
  have h6 := w.1.1
  obtain ⟨⟨a1, a2⟩, a3⟩ := w.2.1 g hg
  obtain ⟨b1, b2, b3⟩ := M.2.2.1 g hg
  exact ⟨(M.1.1.2.2.1 g (by omega)).2, ⟨b1, a1, a2, fun a b ha hb => ⟨b2 a b ha hb, a3.1 a b ha hb⟩⟩, fun a ha => ⟨b3 a ha, a3.2.1 a ha⟩⟩
theorem CI.cm (M : CI h W S T) {m : Nat} (hm : m < snm S) : CM h (W + 32 + 8 * m) (W + 14 + 3 * smu S m) (W + 14 + 3 * sml S m) (mdS S T m) := by
  obtain ⟨⟨W1, W2⟩, C, T1, T2, T3, T4, T5, T6⟩ := M
  have h6 := W1.1.2.1
  obtain ⟨q1, q2⟩ := W1.2.2.1 m hm
  exact ⟨(C.1.1.2.2.2.1 m (by omega)).2, C.2.2.2.1 m hm, C.gt W1 q1, C.gt W1 q2, fun a ha => ⟨T1 m a hm ha, W2.1 m a hm ha⟩, fun g a hg ha => ⟨T2 m g a hm hg ha, W2.2.1 m g a hm hg ha⟩⟩
theorem CI.ca (M : CI h W S T) {a : Nat} (ha : a < sna S) : CA h (W + 80 + 3 * a) (W + 32 + 8 * saf S a) (W + 14 + 3 * smu S (saf S a)) (W + 14 + 3 * sml S (saf S a)) (mdS S T (saf S a)) (W + 32 + 8 * sao S a) (W + 14 + 3 * smu S (sao S a)) (W + 14 + 3 * sml S (sao S a)) (mdS S T (sao S a)) (ttp T a) (tbt T a) := by
  have M2 := M
  obtain ⟨⟨W1, W2⟩, C, T1, T2, T3, T4, T5, T6⟩ := M2
  have h8 := W1.1.2.2
  obtain ⟨q1, q2⟩ := W1.2.2.2 a ha
  have al := (C.1.1.2.2.2.2 a (by omega)).2
  exact ⟨al, C.2.2.2.2 a ha, ⟨M.cm q1, M.cm q2⟩, ⟨T3 _ q1, T3 _ q2⟩, ⟨al.2.1.2, fun x hx => ⟨T4 a x ha hx, W2.2.2.1 a x ha hx⟩⟩, ⟨al.2.2.2, fun x hx => ⟨T5 a x ha hx, W2.2.2.2 a x ha hx⟩⟩⟩
theorem CI.ap (M : CI h W S T) {a : Nat} (ha : a < sna S) : apA (W + 80 + 3 * a) (W + 32 + 8 * saf S a) (W + 14 + 3 * smu S (saf S a)) (W + 14 + 3 * sml S (saf S a)) (W + 32 + 8 * sao S a) (W + 14 + 3 * smu S (sao S a)) (W + 14 + 3 * sml S (sao S a)) := by
  obtain ⟨⟨w1, w2, w3⟩, w4, w5, w6⟩ := M.1.1
  obtain ⟨q1, q2⟩ := w6 a ha
  have := w5 _ q1
  have := w5 _ q2
  unfold apA
  omega
theorem CI.apm (M : CI h W S T) {m : Nat} (hm : m < snm S) : W + 14 + 3 * smu S m + 2 < W + 32 + 8 * m ∧ W + 14 + 3 * sml S m + 2 < W + 32 + 8 * m := by
  obtain ⟨⟨w1, w2, w3⟩, w4, w5, w6⟩ := M.1.1
  have := w5 _ hm
  omega
theorem CS_iw {h' : XH} {B : Nat → Prop} (w : WS S) (M : CS h W S) (i : iw B h h') (hB : ∀ a, B a → a < W ∨ W + 104 ≤ a ∨ rPW W a ∨ a = W + 13 ∨ W + 80 ≤ a) : CS h' W S := by
  obtain ⟨⟨w1, w2, w3⟩, w4, w5, w6⟩ := w
  obtain ⟨⟨m1, m2, m3⟩, ⟨m4, m5, m6⟩, m7, m8, m9⟩ := M
  have nb : ∀ a, W ≤ a → a < W + 80 → (a < W + 32 ∨ (a - (W + 32)) % 8 < 3) → a ≠ W + 13 → ¬ B a := fun a q1 q2 q3 q4 q => by
    have := hB a q
    unfold rPW at this
    omega
  refine ⟨⟨WL_iw m1 i, fun g hg => ?_, fun m hm => ?_⟩, ⟨?_, ?_, ?_⟩, fun g hg => ⟨?_, fun a b ha hb => ?_, fun a ha => ?_⟩, fun m hm => ⟨by rw [i.r]; exact (m8 m hm).1, by rw [i.r]; exact (m8 m hm).2⟩, fun a ha => ⟨by rw [i.r]; exact (m9 a ha).1, by rw [i.r]; exact (m9 a ha).2⟩⟩
  · rw [i.i _ (nb _ (by omega) (by omega) (by omega) (by omega))]; exact m2 g hg
  · rw [i.i _ (nb _ (by omega) (by omega) (by omega) (by omega))]; exact m3 m hm
  · rw [i.i _ (nb _ (by omega) (by omega) (by omega) (by omega))]; exact m4
  · rw [i.i _ (nb _ (by omega) (by omega) (by omega) (by omega))]; exact m5
  · rw [i.i _ (nb _ (by omega) (by omega) (by omega) (by omega))]; exact m6
  · rw [i.i _ (nb _ (by omega) (by omega) (by omega) (by omega))]; exact (m7 g hg).1
  · rw [i.i _ (nb _ (by omega) (by omega) (by omega) (by omega))]; exact (m7 g hg).2.1 a b ha hb
  · rw [i.i _ (nb _ (by omega) (by omega) (by omega) (by omega))]; exact (m7 g hg).2.2 a ha
theorem CI.iw {h' : XH} {B : Nat → Prop} (M : CI h W S T) (i : iw B h h') (hB : ∀ a, B a → a < W ∨ W + 104 ≤ a ∨ rPW W a) : CI h' W S T := by
  obtain ⟨⟨W1, W2⟩, C, T1, T2, T3, T4, T5, T6⟩ := M
  have w := W1
  obtain ⟨⟨w1, w2, w3⟩, w4, w5, w6⟩ := w
  have nb : ∀ a, W ≤ a → a < W + 104 → (a < W + 32 ∨ W + 80 ≤ a ∨ (a - (W + 32)) % 8 < 3) → ¬ B a := fun a q1 q2 q3 q => by
    have := hB a q
    unfold rPW at this
    omega
  refine ⟨⟨W1, W2⟩, CS_iw W1 C i (fun a q => by
    rcases hB a q with z | z | z
    · exact Or.inl z
    · exact Or.inr (Or.inl z)
    · exact Or.inr (Or.inr (Or.inl z))), fun m a q1 q2 => ?_, fun m g a q1 q2 q3 => ?_, fun m q1 => ?_, fun a x q1 q2 => ?_, fun a x q1 q2 => ?_, fun x q1 => ?_⟩
  · rw [i.i _ (nb _ (by omega) (by omega) (by omega))]; exact T1 m a q1 q2
  · rw [i.i _ (nb _ (by omega) (by omega) (by omega))]; exact T2 m g a q1 q2 q3
  · rw [i.i _ (nb _ (by omega) (by omega) (by omega))]; exact T3 m q1
  · rw [i.i _ (nb _ (by omega) (by omega) (by omega))]; exact T4 a x q1 q2
  · rw [i.i _ (nb _ (by omega) (by omega) (by omega))]; exact T5 a x q1 q2
  · rw [i.i _ (nb _ (by omega) (by omega) (by omega))]; exact T6 x q1
theorem FX7_lawfulModules_v (M : CI h W S T) : FX7_lawfulModules E W h = xv (lawS S T) h := by
  have h6 := M.1.1.1.2.1
  have w := M.wl
  unfold FX7_lawfulModules
  refine xlp_all (fun i => (orI (fun m => if whS S T m = 0 then sh m else 0) i, nI i)) (fun _ => h) (snm S) (by omega) (fun i hi ag => ?_) (fun ag => ?_)
  · have hc : ¬ snm S ≤ i := by omega
    have hc2 : ¬ 6 ≤ i := by omega
    have q := whyS_le (mdS S T i)
    have e : whyS (mdS S T i) = whS S T i := rfl
    rw [e] at q
    have e7 := M.2.2.2.2.1 i hi
    simp (disch := omega) only [↓xg, ↓reduceIte, ↓xjn_d, ↓xlt_d, eq_self, and_self, and_true, true_and, not_true, not_false_iff, ne_eq, true_or, or_true, or_false, false_or, nI_s, nI_leP, nI_eqP, w.1, ↓xnn_e (w.rm), w.km, M.2.1.2.1.2.1, hc, ↓xnn_e (w.r11), w.k11, w.n11, ofNat_nI, hc2, xin_t, ↓xnn_e (w.m (show i < 6 by omega)), (M.cm hi).k, e7, nI_eq0, orI_s, sh_d]
    split <;> rfl
  · simp (disch := omega) only [↓xg, ↓reduceIte, ↓xjn_d, ↓xlt_d, eq_self, and_self, and_true, true_and, not_true, not_false_iff, ne_eq, true_or, or_true, or_false, false_or, nI_s, nI_leP, nI_eqP, w.1, ↓xnn_e (w.rm), w.km, M.2.1.2.1.2.1, Int32.le_refl]
    rfl
theorem FX7_firstLike_o (M : CI h W S T) {m : Nat} (hm : m < snm S) (h0 : whS S T m = 0) : xo (FX7_firstLike E W (W + 32 + 8 * m) h) (fun r h' => r = nI (flS S T m) ∧ iw (rPW W) h h') := by
  have h6 := M.1.1.1.2.1
  have hf := fi_le m (fun o => decide (whS S T o = 0) && alS (mdS S T o) (mdS S T m))
  have Lm := LW_of (M.wd hm) (M.gd hm) h0
  have apm := M.apm hm
  unfold FX7_firstLike
  refine xo_g (M.cm hm).k (xo_b (FX1_freshPair_o (M.cm hm) Lm apm.1 apm.2) (fun v h2 q2 => ?_))
  obtain ⟨rfl, i2, p2⟩ := q2
  have i2 : iw (rPW W) h h2 := i2.wide (fun a q => rPW_of (by omega) q)
  refine xlp_inv (Po := fun m => xo m _) (fun i s h' => s = nI i ∧ iw (rPW W) h h' ∧ PR h' (W + 32 + 8 * m) (mdS S T m)) (flS S T m) (by unfold flS; omega) (fun i s h' ag hi I again => ?_) ⟨rfl, i2, p2⟩
  obtain ⟨rfl, iW, p3⟩ := I
  have M2 := M.iw iW (fun a q => Or.inr (Or.inr q))
  have him : i ≤ m := by unfold flS at hi; omega
  have w := M2.wl
  have cm := M2.cm hm
  have hN : xi h' (W + 32 + 8 * m) 0 = nI m := M2.2.1.1.2.2 m (by omega)
  refine xo_g cm.k (xo_jn ?_)
  rw [hN]
  by_cases e : i = m
  · subst e
    refine xo_t (Int32.le_refl _) (xo_g cm.k (xo_v ⟨?_, iW⟩))
    rw [hN, show flS S T i = i from Nat.le_antisymm hf hi]
  · have hlt : i < m := by omega
    have his : i < snm S := by omega
    have cmi := M2.cm his
    have q := whyS_le (mdS S T i)
    have e7 := M2.2.2.2.2.1 i his
    have e : whyS (mdS S T i) = whS S T i := rfl
    rw [e] at q
    refine xo_f (nI_ge hlt (by omega)) (xo_g w.1 (xo_n w.r11 (xo_g w.k11 ?_)))
    rw [w.n11]
    refine xo_f (by rw [ofNat_nI, nI_leP (by omega) (by omega)]; omega) (xo_g w.1 (xo_n w.r11 (xo_g ⟨w.k11, by rw [w.n11]; exact xin_nI (by omega) (by omega)⟩ (xo_n (w.m (show i < 6 by omega)) (xo_g cmi.k (xo_jn ?_))))))
    rw [e7]
    by_cases c1 : whS S T i = 0
    · have Li := LW_of (M.wd his) (M.gd his) c1
      have api := M.apm his
      refine xo_t (by rw [c1]; rfl) (xo_g w.1 (xo_n w.r11 (xo_g ⟨w.k11, by rw [w.n11]; exact xin_nI (by omega) (by omega)⟩ (xo_n (w.m (show i < 6 by omega)) (xo_g cmi.k (xo_b (FX1_freshPair_o cmi Li api.1 api.2) (fun v h4 q4 => ?_)))))))
      obtain ⟨rfl, i4, p4⟩ := q4
      have p5 : PR h4 (W + 32 + 8 * m) (mdS S T m) := p3.iw i4 (fun a q => by unfold rPairs at q; omega)
      have i4 : iw (rPW W) h h4 := iW.trans i4 (fun _ q => q) (fun a q => rPW_of (by omega) q)
      have M4 := M.iw i4 (fun a q => Or.inr (Or.inr q))
      refine xo_g (M4.cm his).pk (xo_eb (FX4_matches_v (M4.cm his) (M4.cm hm) p4 p5) ?_)
      cases c2 : alS (mdS S T i) (mdS S T m)
      · have hlt2 : i < flS S T m := by
          rcases Nat.lt_or_ge i (flS S T m) with z | z
          · exact z
          · exfalso
            have e : i = flS S T m := by omega
            have := fi_yes (m := m) (P := fun o => decide (whS S T o = 0) && alS (mdS S T o) (mdS S T m)) (by unfold flS at e; omega)
            rw [← show i = fi m (fun o => decide (whS S T o = 0) && alS (mdS S T o) (mdS S T m)) from e] at this
            rw [c2, Bool.and_false] at this
            cases this
        refine xo_t rfl ?_
        rw [nI_s]
        exact again hlt2 _ _ ⟨rfl, i4, p5⟩
      · refine xo_f (by decide) (xo_v ⟨?_, i4⟩)
        rcases Nat.lt_or_ge i (flS S T m) with z | z
        · have := fi_not z
          rw [c2, Bool.and_true, c1] at this
          cases this
        · rw [show i = flS S T m by omega]
    · have hlt2 : i < flS S T m := by
        rcases Nat.lt_or_ge i (flS S T m) with z | z
        · exact z
        · exfalso
          have e : i = flS S T m := by omega
          have := fi_yes (m := m) (P := fun o => decide (whS S T o = 0) && alS (mdS S T o) (mdS S T m)) (by unfold flS at e; omega)
          rw [← show i = fi m (fun o => decide (whS S T o = 0) && alS (mdS S T o) (mdS S T m)) from e] at this
          rw [Bool.and_eq_true, decide_eq_true_eq] at this
          exact c1 this.1
      refine xo_f (by rw [nI_eq0 (by omega)]; exact c1) ?_
      rw [nI_s]
      exact again hlt2 _ _ ⟨rfl, iW, p3⟩
theorem FX7_equivalenceSet_o (M : CI h W S T) : xo (FX7_equivalenceSet E W h) (fun r h' => r = eqsS S T ∧ iw (rPW W) h h') := by
  have h8 := M.1.1.1.2.2
  have h6 := M.1.1.1.2.1
  unfold FX7_equivalenceSet
  refine xlp_inv (Po := fun m => xo m _) (fun i s h' => s = (orI (fun a => if eqA S T a then sh a else 0) i, nI i) ∧ iw (rPW W) h h') (sna S) (by omega) (fun i s h' ag hi I again => ?_) ⟨rfl, iw.refl _ _⟩
  obtain ⟨rfl, iW⟩ := I
  have M2 := M.iw iW (fun a q => Or.inr (Or.inr q))
  have w := M2.wl
  refine xo_g w.1 (xo_n w.ra (xo_g w.ka (xo_jn ?_)))
  rw [M2.2.1.2.1.2.2]
  by_cases e : i = sna S
  · subst e
    exact xo_t (Int32.le_refl _) (xo_v ⟨rfl, iW⟩)
  · have hlt : i < sna S := by omega
    obtain ⟨q1, q2⟩ := M.1.1.2.2.2 i hlt
    refine xo_f (nI_ge hlt (by omega)) (xo_g w.1 (xo_n w.r12 (xo_g w.k12 ?_)))
    rw [w.n12]
    refine xo_f (by rw [ofNat_nI, nI_leP (by omega) (by omega)]; omega) (xo_g w.1 (xo_n w.r12 (xo_g ⟨w.k12, by rw [w.n12]; exact xin_nI (by omega) (by omega)⟩ (xo_n (w.a (show i < 8 by omega)) (xo_g (M2.ca hlt).k (xo_b (FX0_joinsAlikePairs_o (M2.ca hlt) (M2.ap hlt) (fun z => ?_) (M.gd q1) (M.gd q2)) (fun v h3 q3 => ?_)))))))
    · rw [show saf S i = sao S i by omega]
    · obtain ⟨rfl, i3⟩ := q3
      have i3 : iw (rPW W) h h3 := iW.trans i3 (fun _ q => q) (fun a q => by
        rcases q with q | q
        · exact rPW_of (show saf S i < 6 by omega) q
        · exact rPW_of (show sao S i < 6 by omega) q)
      refine xo_jn ?_
      have e0 : eqS (mdS S T (saf S i)) (mdS S T (sao S i)) (ttp T i) (tbt T i) = eqA S T i := rfl
      rw [e0]
      dsimp only
      rw [nI_s]
      cases hq : eqA S T i
      · refine xo_t rfl (xo_lt (again hlt _ _ ⟨?_, i3⟩))
        rw [orI_s, hq]
        rfl
      · refine xo_f (by decide) (xo_lt (again hlt _ _ ⟨?_, i3⟩))
        rw [orI_s, hq]
        rfl
theorem FX7_oneStepFrom_v (M : CI h W S T) (s b : Int32) : FX7_oneStepFrom E W s b h = xv (owS S b s) h := by
  have h8 := M.1.1.1.2.2
  have h6 := M.1.1.1.2.1
  have w := M.wl
  unfold FX7_oneStepFrom
  refine xlp_all (fun i => (fld (fun a x => if mb b a && (mb s (saf S a) || mb s (sao S a)) then x ||| (sh (saf S a) ||| sh (sao S a)) else x) s i, nI i)) (fun _ => h) (sna S) (by omega) (fun i hi ag => ?_) (fun ag => ?_)
  · have hc : ¬ sna S ≤ i := by omega
    have hc2 : ¬ 8 ≤ i := by omega
    obtain ⟨q1, q2⟩ := M.1.1.2.2.2 i hi
    have ca := M.ca hi
    have r5 : xi h (W + 32 + 8 * saf S i) 0 = nI (saf S i) := M.2.1.1.2.2 _ (by omega)
    have r6 : xi h (W + 32 + 8 * sao S i) 0 = nI (sao S i) := M.2.1.1.2.2 _ (by omega)
    have u5 : FX8_isIn E s (xi h (W + 32 + 8 * saf S i) 0) h = xv (bI (mb s (saf S i))) h := by rw [r5]; exact FX8_isIn_v s (show saf S i < 32 by omega)
    have u6 : FX8_isIn E s (xi h (W + 32 + 8 * sao S i) 0) h = xv (bI (mb s (sao S i))) h := by rw [r6]; exact FX8_isIn_v s (show sao S i < 32 by omega)
    rw [ow_step S b s 0 i]
    cases c1 : mb b i
    · simp (disch := omega) only [↓xg, ↓reduceIte, ↓xjn_d, ↓xlt_d, eq_self, and_self, and_true, true_and, not_true, not_false_iff, ne_eq, true_or, or_true, or_false, false_or, nI_s, nI_leP, nI_eqP, w.1, ↓xnn_e (w.ra), w.ka, M.2.1.2.1.2.2, hc, ↓xnn_e (w.r12), w.k12, w.n12, ofNat_nI, hc2, xin_t, ↓xnn_e (w.a (show i < 8 by omega)), ca.k, ↓xnn_e (ca.f), ↓xnn_e (ca.o), ca.cf.k, ca.co.k, ↓xb_eq (FX8_isIn_v b (show i < 32 by omega)), c1, bI_eq0, Bool.false_and, Bool.false_eq_true]
    · cases c2 : mb s (saf S i)
      · cases c3 : mb s (sao S i)
        · simp (disch := omega) only [↓xg, ↓reduceIte, ↓xjn_d, ↓xlt_d, eq_self, and_self, and_true, true_and, not_true, not_false_iff, ne_eq, true_or, or_true, or_false, false_or, nI_s, nI_leP, nI_eqP, w.1, ↓xnn_e (w.ra), w.ka, M.2.1.2.1.2.2, hc, ↓xnn_e (w.r12), w.k12, w.n12, ofNat_nI, hc2, xin_t, ↓xnn_e (w.a (show i < 8 by omega)), ca.k, ↓xnn_e (ca.f), ↓xnn_e (ca.o), ca.cf.k, ca.co.k, ↓xb_eq (FX8_isIn_v b (show i < 32 by omega)), c1, bI_eq0, ↓xb_eq (u5), ↓xb_eq (u6), c2, c3, Bool.true_and, Bool.or_false, Bool.false_eq_true, reduceCtorEq]
        · simp (disch := omega) only [↓xg, ↓reduceIte, ↓xjn_d, ↓xlt_d, eq_self, and_self, and_true, true_and, not_true, not_false_iff, ne_eq, true_or, or_true, or_false, false_or, nI_s, nI_leP, nI_eqP, w.1, ↓xnn_e (w.ra), w.ka, M.2.1.2.1.2.2, hc, ↓xnn_e (w.r12), w.k12, w.n12, ofNat_nI, hc2, xin_t, ↓xnn_e (w.a (show i < 8 by omega)), ca.k, ↓xnn_e (ca.f), ↓xnn_e (ca.o), ca.cf.k, ca.co.k, ↓xb_eq (FX8_isIn_v b (show i < 32 by omega)), c1, bI_eq0, ↓xb_eq (u5), ↓xb_eq (u6), c2, c3, Bool.true_and, Bool.or_true, Bool.false_eq_true, reduceCtorEq, r5, r6, sh_d]
      · simp (disch := omega) only [↓xg, ↓reduceIte, ↓xjn_d, ↓xlt_d, eq_self, and_self, and_true, true_and, not_true, not_false_iff, ne_eq, true_or, or_true, or_false, false_or, nI_s, nI_leP, nI_eqP, w.1, ↓xnn_e (w.ra), w.ka, M.2.1.2.1.2.2, hc, ↓xnn_e (w.r12), w.k12, w.n12, ofNat_nI, hc2, xin_t, ↓xnn_e (w.a (show i < 8 by omega)), ca.k, ↓xnn_e (ca.f), ↓xnn_e (ca.o), ca.cf.k, ca.co.k, ↓xb_eq (FX8_isIn_v b (show i < 32 by omega)), c1, bI_eq0, ↓xb_eq (u5), c2, Bool.true_and, Bool.true_or, Bool.false_eq_true, reduceCtorEq, r5, r6, sh_d]
  · simp (disch := omega) only [↓xg, ↓reduceIte, ↓xjn_d, ↓xlt_d, eq_self, and_self, and_true, true_and, not_true, not_false_iff, ne_eq, true_or, or_true, or_false, false_or, nI_s, nI_leP, nI_eqP, w.1, ↓xnn_e (w.ra), w.ka, M.2.1.2.1.2.2, Int32.le_refl]
    rfl
end CIS
