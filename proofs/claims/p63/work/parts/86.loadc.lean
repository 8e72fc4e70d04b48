/-! The class's load; both answer alike. -/
set_option linter.unusedVariables false
theorem xq_al {α : Type} {h : XH} {g n : Nat} {f : Nat → XH → XP α} {Q : α ⊕ Nat → XH → Prop} (hm : ∀ h', h' = ya h g n → xq (f (xt h) h') Q) : xq (xal h g n f) Q := hm _ rfl
theorem xq_wi {α : Type} {h : XH} {a k : Nat} {x : Int32} {f : XH → XP α} {Q : α ⊕ Nat → XH → Prop} (hm : ∀ h', h' = yi h a k x → xq (f h') Q) : xq (xlt (yi h a k x) f) Q := hm _ rfl
theorem xq_wr {α : Type} {h : XH} {a k : Nat} {x : Option Nat} {f : XH → XP α} {Q : α ⊕ Nat → XH → Prop} (hm : ∀ h', h' = yr h a k x → xq (f h') Q) : xq (xlt (yr h a k x) f) Q := hm _ rfl
/-- what a load leaves alone: all but the object's own fields and the world s -/
def LF (X s : Nat) (h h' : XH) : Prop := xt h ≤ xt h' ∧ ∀ a, a < xt h → ¬ a = X → ¬ (s ≤ a ∧ a < s + 104) → smC a h h'
/-- what a load makes -/
def LZ (h h1 : XH) : Prop := (xc h1 = xc h + 2 ∧ xu h1 = xu h + 11) ∧ ∀ a j, xt h1 ≤ a → xi h1 a j = xi h a j
theorem LZ_fw {h h1 h2 : XH} {A R : Nat → Nat → Prop} (z : LZ h h1) (w : fW A R h1 h2) (q : ∀ a j, A a j → a < xt h1) : LZ h h2 := ⟨⟨w.c.trans z.1.1, w.u.trans z.1.2⟩, fun a j p => by
  rw [w.t] at p
  rw [w.i (fun y => absurd (q a j y) (Nat.not_lt.mpr p))]
  exact z.2 a j p⟩
theorem LZ_iw {h h1 h2 : XH} {Bp : Nat → Prop} (z : LZ h h1) (i : iw Bp h1 h2) (q : ∀ a, Bp a → a < xt h1) : LZ h h2 := ⟨⟨(congrArg (fun z => z.2.1) i.s3).trans z.1.1, (congrArg (fun z => z.2.2) i.s3).trans z.1.2⟩, fun a j p => by
  rw [i.t] at p
  rw [i.i _ (fun y => absurd (q a y) (Nat.not_lt.mpr p))]
  exact z.2 a j p⟩
section LDC
variable {E : XG} {h h' h1 h2 : XH} {X Y O w s f n : Nat} {Z : ZD} {B : BF}
theorem LF_t (p : LF X s h h1) (q : LF X s h1 h2) : LF X s h h2 := ⟨Nat.le_trans p.1 q.1, fun a a1 a2 a3 => smC_t (p.2 a a1 a2 a3) (q.2 a (Nat.lt_of_lt_of_le a1 p.1) a2 a3)⟩
theorem LF_X {k : Nat} {x : Int32} (e : h' = yi h X k x) : LF X s h h' := ⟨by rw [e]; exact Nat.le_refl _, fun a _ a2 _ => by rw [e]; exact smC_yi a2⟩
theorem LF_Xr {k : Nat} {x : Option Nat} (e : h' = yr h X k x) : LF X s h h' := ⟨by rw [e]; exact Nat.le_refl _, fun a _ a2 _ => by rw [e]; exact smC_yr a2⟩
theorem LF_iw {Bp : Nat → Prop} (i : iw Bp h h') (hB : ∀ a, Bp a → s ≤ a ∧ a < s + 104) : LF X s h h' := ⟨by rw [i.t]; exact Nat.le_refl _, fun a _ _ a3 => smC_iw i (fun q => a3 (hB a q))⟩
theorem XL_lf (x : XL h X) (l : LF X s h h') (d : (s = X + 2 ∨ s = X + 106) ∧ X + 223 ≤ xt h) (kx : xk h' X = xk h X) (rx : ∀ j, (j = 0 ∨ j = 7 ∨ j = 10 ∨ j = 12) → xr h' X j = xr h X j) : XL h' X := by
  obtain ⟨x1, ⟨x2, x3, x4⟩, ⟨x5, x6, x7⟩, x8, ⟨x9, y1, y2⟩, y3, y4, y5, y6⟩ := x
  have e : ∀ a, X < a → a < X + 223 → ¬ (s ≤ a ∧ a < s + 104) → smC a h h' := fun a a1 a2 a3 => l.2 a (by omega) (by omega) a3
  refine ⟨kx.trans x1, ⟨(rx _ (by omega)).trans x2, (e _ (by omega) (by omega) (by omega)).1.1.trans x3, (e _ (by omega) (by omega) (by omega)).1.2.trans x4⟩, ⟨(rx _ (by omega)).trans x5, (e _ (by omega) (by omega) (by omega)).1.1.trans x6, (e _ (by omega) (by omega) (by omega)).1.2.trans x7⟩, fun i hi => ?_, ⟨(rx _ (by omega)).trans x9, (e _ (by omega) (by omega) (by omega)).1.1.trans y1, (e _ (by omega) (by omega) (by omega)).1.2.trans y2⟩, fun i hi => ?_, (rx _ (by omega)).trans y4, (e _ (by omega) (by omega) (by omega)).1.1.trans y5, (e _ (by omega) (by omega) (by omega)).1.2.trans y6⟩
  · obtain ⟨a1, a2, a3⟩ := x8 i hi
    exact ⟨((e _ (by omega) (by omega) (by omega)).2.2.2 _).trans a1, (e _ (by omega) (by omega) (by omega)).1.1.trans a2, (e _ (by omega) (by omega) (by omega)).1.2.trans a3⟩
  · obtain ⟨a1, a2, a3⟩ := y3 i hi
    exact ⟨((e _ (by omega) (by omega) (by omega)).2.2.2 _).trans a1, (e _ (by omega) (by omega) (by omega)).1.1.trans a2, (e _ (by omega) (by omega) (by omega)).1.2.trans a3⟩
theorem LF_fr (l : LF X s h h') (d : s = X + 2 ∨ s = X + 106) : FRm X h h' := ⟨l.1, fun a a1 a2 => l.2 a a2 (by omega) (by omega)⟩
theorem LF_w (l : LF X s h h') (d : (w = X + 2 ∧ s = X + 106) ∨ (w = X + 106 ∧ s = X + 2)) (t : X + 223 ≤ xt h) : smW w h h' := fun a a1 a2 => l.2 a (by omega) (by omega) (by omega)
/-- refused -/
theorem XI_er {c p : Nat} (x : XI h X w s f Z) (t : X + 223 ≤ xt h) (l : LF X s h h') (kx : xk h' X = xk h X) (rx : ∀ j, xr h' X j = xr h X j) (ix : ∀ j, (j = 4 ∨ 8 ≤ j) → xi h' X j = xi h X j) (i1 : xi h' X 1 = 0) (i2 : xi h' X 2 = nI c) (i3 : xi h' X 3 = nI p) (wl : WL h' s) (wn : WN h' s) : XI h' X w s f (zEr Z c p) := by
  obtain ⟨⟨x1, x2, x3, x4, x5, x6⟩, ⟨x7, x8⟩, ⟨x9, x10⟩, ⟨x11, x12, x13⟩, ⟨⟨x14, x15, x16⟩, x17⟩, x18, x19, x20⟩ := x
  have sw := LF_w l x4 t
  refine ⟨⟨XL_lf x1 l ⟨by omega, t⟩ kx (fun j _ => rx j), (rx _).trans x2, (rx _).trans x3, x4, wl, wn⟩, ⟨CI_sm x7 sw, NC_sm x7.1.1 x8 sw⟩, ⟨i1, fun j hj => absurd hj (Nat.not_lt_zero _)⟩, ⟨i2, i3, (ix _ (by omega)).trans x13⟩, ⟨⟨x14, (ix _ (by omega)).trans x15, (ix _ (by omega)).trans x16⟩, fun j hj => CR_sm (x17 j hj) (l.2 _ (by omega) (by omega) (by omega))⟩, fun j hj => ⟨?_, fun T hT => CR_sm ((x18 j hj).2 T hT) (l.2 _ (by omega) (by omega) (by omega))⟩, (ix _ (by omega)).trans x19, fun j hj => ?_⟩
  · rw [ix _ (by omega)]; exact (x18 j hj).1
  · rw [(l.2 (X + 222) (by omega) (by omega) (by omega)).2.1]; exact x20 j hj
/-- done -/
theorem XI_ld {S : SD} {T : ST} (x : XI h X w s f Z) (t : X + 223 ≤ xt h) (l : LF X s h h') (kx : xk h' X = xk h X) (rx : ∀ j, ¬ j = 5 → ¬ j = 6 → xr h' X j = xr h X j) (r5 : xr h' X 5 = some s) (r6 : xr h' X 6 = some w) (ix : xi h' X 1 = 0 ∧ xi h' X 2 = 0 ∧ xi h' X 3 = -1 ∧ xi h' X 4 = 1 ∧ xi h' X 8 = 0 ∧ xi h' X 9 = 0 ∧ xi h' X 11 = 0 ∧ xi h' X 13 = xi h X 13) (ci : CI h' s S T) (nc : NC h' s S) : XI h' X s w 0 (zLd Z S T) := by
  obtain ⟨⟨x1, x2, x3, x4, x5, x6⟩, ⟨x7, x8⟩, ⟨x9, x10⟩, ⟨x11, x12, x13⟩, ⟨⟨x14, x15, x16⟩, x17⟩, x18, x19, x20⟩ := x
  obtain ⟨i1, i2, i3, i4, i8, i9, i11, i13⟩ := ix
  have sw := LF_w l x4 t
  refine ⟨⟨XL_lf x1 l ⟨by omega, t⟩ kx (fun j q => rx j (by omega) (by omega)), r5, r6, by omega, WL_sm x7.wl sw, WN_sm x7.2.1.1.2 sw⟩, ⟨ci, nc⟩, ⟨i1, fun j hj => absurd hj (Nat.not_lt_zero _)⟩, ⟨i2, i3, i4⟩, ⟨⟨by omega, i8, i9⟩, fun j hj => absurd hj (Nat.not_lt_zero _)⟩, fun j hj => ⟨?_, fun T hT => by cases hT⟩, i13.trans x19, fun j hj => ?_⟩
  · rw [i11, mb_0]; rfl
  · rw [(l.2 (X + 222) (by omega) (by omega) (by omega)).2.1]; exact x20 j hj
theorem C_load (x : XI h X w s f Z) (z : WZ Z) (t : X + 223 ≤ xt h) (hn : n ≤ zfl Z) : xq (FX8_load E X (nI n) h) (fun r h1 => (LF X s h h1 ∧ LZ h h1) ∧ match eText (zBF Z n) with
    | some e => r = .inr 2 ∧ ∃ w s f, XI h1 X w s f (zEr Z e.1 e.2)
    | none => r = .inl (nI (snm (paZ (tkE (zBF Z n))))) ∧ ∃ w s f, XI h1 X w s f (zLd Z (paZ (tkE (zBF Z n))) (paT (tkE (zBF Z n))))) := by
  have z900 := z.2.2.2.2.1.1
  have x0 := x
  obtain ⟨⟨x1, x2, x3, x4, x5, x6⟩, ⟨x7, x8⟩, ⟨x9, x10⟩, ⟨x11, x12, x13⟩, -⟩ := x0
  have sX : s = X + 2 ∨ s = X + 106 := by omega
  unfold FX8_load
  refine xq_jn (xq_jn (xq_f (show ¬ nI n < (0 : Int32) by rw [nI_lt0 (by omega)]; exact id) (xq_g x.k (xq_f (show ¬ xi h X 1 < nI n by rw [x9, nI_ltP (by omega) (by omega)]; omega) ?_))))
  refine xq_eb (show FX8_demandThere E 1 h = xv () h from if_neg (by decide)) (xq_g x.k (xq_n x3 (xq_g x5.1 (xq_b (clear_o x5) (fun _ h5 q => ?_)))))
  obtain ⟨i5, c5, a5⟩ := q
  have t5 : xt h5 = xt h := i5.t
  have kX : xk h X = 9 := x1.1
  have k5 : xk h5 X = 9 := (i5.k _).trans kX
  refine xq_g (by rw [k5]; decide) (xq_al (fun h7 e7 => ?_))
  have neP : ¬ X = xt h5 := by omega
  have k7 : xk h7 X = 9 := by rw [e7, xk_ya, if_neg neP]; exact k5
  have t7 : xt h7 = xt h5 + 1 := by rw [e7]; rfl
  refine xq_g (by rw [k7]; decide) (xq_al (fun h9 e9 => ?_))
  have hP : ∃ P, P = xt h5 := ⟨_, rfl⟩
  obtain ⟨P, eP⟩ := hP
  have hK : ∃ K, K = xt h7 := ⟨_, rfl⟩
  obtain ⟨K, eK⟩ := hK
  rw [← eP, ← eK]
  have pX : X + 223 ≤ P := by omega
  have kP : K = P + 1 := by omega
  have l9 : Lo P h5 h9 := by
    rw [e9, e7]
    exact (Lo_ya h5 6 0 (by omega)).trans (Lo_ya _ 7 0 (by show P ≤ xt h5 + 1; omega))
  have kk9 : xk h9 K = 7 := by rw [e9, xk_ya, if_pos eK]
  have kp9 : xk h9 P = 6 := by rw [e9, xk_ya, if_neg (by omega), e7, xk_ya, if_pos eP]
  have z9 : ∀ j, xi h9 K j = 0 := fun j => by rw [e9, xi_ya, if_pos eK]
  have s9 : ∀ a, a < xt h → smC a h5 h9 := fun a ha => l9 a (by omega)
  have k9 : xk h9 X = 9 := (s9 X (by omega)).1.1.trans k5
  have r9 : ∀ j, xr h9 X j = xr h X j := fun j => ((s9 X (by omega)).2.2.2 j).trans (i5.r X j)
  refine xq_g k9 (xq_n ((r9 0).trans x1.2.1.1) ?_)
  have hI6 : xo (FX6_init E K (X + 1) (nI n) h9) (fun _ h11 => h11 = yi (yr h9 K 0 (some (X + 1))) K 1 (nI n)) := by
    unfold FX6_init
    refine xo_g kk9 (xo_wr (fun h10 e10 => xo_g (by rw [e10]; exact kk9) (xo_wi (fun h11 e11 => xo_v (by rw [e11, e10])))))
  refine xq_b hI6 (fun _ h11 e11 => ?_)
  have l11 : Lo P h5 h11 := l9.trans (by rw [e11]; exact (Lo_yr h9 K 0 _ (by omega)).trans (Lo_yi _ K 1 _ (by omega)))
  have s11 : ∀ a, a < xt h → smC a h5 h11 := fun a ha => l11 a (by omega)
  have k11 : xk h11 X = 9 := (s11 X (by omega)).1.1.trans k5
  have r11 : ∀ j, xr h11 X j = xr h X j := fun j => ((s11 X (by omega)).2.2.2 j).trans (i5.r X j)
  have kp11 : xk h11 P = 6 := by rw [e11]; exact kp9
  refine xq_g k11 (xq_n ((r11 6).trans x3) ?_)
  have hI5 : xo (FX5_init E P K s h11) (fun _ h13 => h13 = yr (yr (yi h11 P 3 (-1)) P 0 (some K)) P 1 (some s)) := by
    unfold FX5_init
    refine xo_g kp11 (xo_wi (fun h12 e12 => xo_g (by rw [e12]; exact kp11) (xo_wr (fun h12' e12' => xo_g (by rw [e12', e12]; exact kp11) (xo_wr (fun h13 e13 => xo_v (by rw [e13, e12', e12])))))))
  refine xq_b hI5 (fun _ h13 e13 => ?_)
  have l13 : Lo P h5 h13 := l11.trans (by rw [e13]; exact ((Lo_yi h11 P 3 _ (by omega)).trans (Lo_yr _ P 0 _ (by omega))).trans (Lo_yr _ P 1 _ (by omega)))
  have s13 : ∀ a, a < xt h → smC a h5 h13 := fun a ha => l13 a (by omega)
  have t13 : xt h13 = xt h + 2 := by rw [e13, e11, e9, e7]; show xt h5 + 1 + 1 = _; omega
  have kp13 : xk h13 P = 6 := by rw [e13]; exact kp11
  have kk13 : xk h13 K = 7 := by rw [e13, e11]; exact kk9
  have nK : ¬ K = P := by omega
  have rp0 : xr h13 P 0 = some K := by rw [e13, xr_yr, if_neg (fun q => by cases q.2), xr_yr, if_pos ⟨rfl, rfl⟩]
  have rp1 : xr h13 P 1 = some s := by rw [e13, xr_yr, if_pos ⟨rfl, rfl⟩]
  have rk0 : xr h13 K 0 = some (X + 1) := by rw [e13, xr_yr, if_neg (fun q => nK q.1), xr_yr, if_neg (fun q => nK q.1), xr_yi, e11, xr_yi, xr_yr, if_pos ⟨rfl, rfl⟩]
  have ik1 : xi h13 K 1 = nI n := by rw [e13, xi_yr, xi_yr, xi_yi2 _ _ (Or.inl nK), e11, xi_yi1]
  have ik3 : xi h13 K 3 = 0 := by rw [e13, xi_yr, xi_yr, xi_yi2 _ _ (Or.inl nK), e11, xi_yi2 _ _ (Or.inr (by decide)), xi_yr]; exact z9 3
  have ip2 : xi h13 P 2 = 0 := by
    rw [e13, xi_yr, xi_yr, xi_yi2 _ _ (Or.inr (by decide)), e11, xi_yi2 _ _ (Or.inl (by omega)), xi_yr, e9, xi_ya, if_neg (by omega), e7, xi_ya, if_pos eP]
  have ip3 : xi h13 P 3 = -1 := by rw [e13, xi_yr, xi_yr, xi_yi1]
  have wl13 : WL h13 s := WL_sm (WL_iw x5 i5) (fun a a1 a2 => s13 a (by omega))
  have wn5 : WN h5 s := ⟨fun g hg => (i5.i _ (by omega)).trans (x6.1 g hg), fun m hm => (i5.i _ (by omega)).trans (x6.2 m hm)⟩
  have wn13 : WN h13 s := WN_sm wn5 (fun a a1 a2 => s13 a (by omega))
  have b13 := s13 (X + 1) (by omega)
  have cl13 : CL h13 X s K P (zBF Z n) := ⟨⟨⟨by omega, by omega, nK⟩, sX⟩, ⟨kp13, rp0, rp1⟩, ⟨⟨kk13, rk0, ik1⟩, ⟨b13.1.1.trans ((i5.k _).trans x1.2.1.2.1), b13.1.2.trans ((i5.n _).trans x1.2.1.2.2)⟩, ⟨Nat.le_trans hn z900, by omega⟩, fun i hi => ⟨(b13.2.1 i).trans ((i5.i _ (by omega)).trans (x10 i (Nat.lt_of_lt_of_le hi hn))), z.2.2.2.2.1.2 i (Nat.lt_of_lt_of_le hi hn)⟩⟩, wl13, wn13⟩
  have cd13 : CD h13 s S0 T0 (fun _ => 0) := CD_0 (fun a ha => ((s13 _ (by omega)).2.1 _).trans (c5 a ha)) (fun a ha => ((s13 _ (by omega)).2.1 _).trans (a5 a ha))
  have f13 : LF X s h h13 := ⟨by omega, fun a a1 a2 a3 => smC_t (smC_iw i5 (by omega)) (s13 a a1)⟩
  have z13 : LZ h h13 := ⟨⟨by rw [e13, e11, e9, e7]; show xc h5 + 1 + 1 = _; rw [show xc h5 = xc h from congrArg (fun z => z.2.1) i5.s3], by rw [e13, e11, e9, e7]; show xu h5 + 4 + 7 = _; rw [show xu h5 = xu h from congrArg (fun z => z.2.2) i5.s3]⟩, fun a j q => by
    rw [t13] at q
    rw [e13, xi_yr, xi_yr, xi_yi2 _ _ (Or.inl (by omega)), e11, xi_yi2 _ _ (Or.inl (by omega)), xi_yr, e9, xi_ya, if_neg (by omega), e7, xi_ya, if_neg (by omega)]
    exact i5.i j (by omega)⟩
  refine xq_g kp13 (xq_b (readText_o cl13 cd13 ik3) (fun v h15 q => ?_))
  obtain ⟨w15, c15⟩ := q
  have t15 : xt h15 = xt h + 2 := w15.t.trans t13
  have z15 : LZ h h15 := LZ_fw z13 w15 (fun a j q => by unfold rdA at q; omega)
  have cl15 := cl13.fw w15 (fun a j q => q) (fun a j q => q)
  have nA : ∀ a, a < xt h → ¬ (s ≤ a ∧ a < s + 104) → (∀ j, ¬ rdA s K P a j) ∧ ∀ j, ¬ rdR s a j := fun a a1 a2 => ⟨fun j => by unfold rdA; omega, fun j => by unfold rdR; omega⟩
  have f15 : LF X s h h15 := ⟨by rw [w15.t]; omega, fun a a1 a2 a3 => smC_t (f13.2 a a1 a2 a3) (smC_fw w15 (nA a a1 a3).1 (nA a a1 a3).2)⟩
  have nX := nA X (by omega) (by omega)
  have k15 : xk h15 X = 9 := (w15.k _).trans ((s13 X (by omega)).1.1.trans k5)
  have r15 : ∀ j, xr h15 X j = xr h X j := fun j => (w15.r (nX.2 j)).trans (((s13 X (by omega)).2.2.2 j).trans (i5.r X j))
  have x15 : ∀ j, xi h15 X j = xi h X j := fun j => (w15.i (nX.1 j)).trans (((s13 X (by omega)).2.1 j).trans (i5.i j (by omega)))
  have kp15 : xk h15 P = 6 := cl15.pk
  have nPX : ¬ P = X := by omega
  refine xq_g k15 (xq_wi (fun h16 e16 => ?_))
  refine xq_g (by rw [e16]; exact kp15) (xq_g (by rw [e16]; exact k15) ?_)
  rw [show xi h16 P 2 = xi h15 P 2 from e_o e16 (Or.inl nPX)]
  refine xq_wi (fun h17 e17 => ?_)
  refine xq_g (by rw [e17, e16]; exact kp15) (xq_g (by rw [e17, e16]; exact k15) ?_)
  rw [show xi h17 P 3 = xi h15 P 3 from (e_o e17 (Or.inl nPX)).trans (e_o e16 (Or.inl nPX))]
  refine xq_wi (fun h18 e18 => ?_)
  have k18 : xk h18 X = 9 := by rw [e18, e17, e16]; exact k15
  have r18 : ∀ a j, xr h18 a j = xr h15 a j := fun a j => by rw [e18, e17, e16]; rfl
  have w18 : fW (fun a j => a = X) noR h15 h18 := ((fw_i (R := noR) (A := fun a j => a = X) e16 rfl).trans (fw_i e17 rfl)).trans (fw_i e18 rfl)
  have z18 : LZ h h18 := LZ_fw z15 w18 (fun a j q => by have q2 : a = X := q; omega)
  have f18 : LF X s h h18 := ⟨by rw [w18.t]; exact f15.1, fun a a1 a2 a3 => smC_t (f15.2 a a1 a2 a3) (smC_fw w18 (fun _ q => a2 q) (fun _ q => q))⟩
  have i18 : xi h18 X 1 = 0 ∧ xi h18 X 2 = xi h15 P 2 ∧ xi h18 X 3 = xi h15 P 3 ∧ ∀ j, (j = 4 ∨ 8 ≤ j) → xi h18 X j = xi h X j := by
    refine ⟨?_, ?_, e_s e18, fun j hj => ?_⟩
    · rw [e_o e18 (Or.inr (by decide)), e_o e17 (Or.inr (by decide)), e_s e16]
    · rw [e_o e18 (Or.inr (by decide)), e_s e17]
    · rw [e_o e18 (Or.inr (by omega)), e_o e17 (Or.inr (by omega)), e_o e16 (Or.inr (by omega))]; exact x15 j
  have sm18 : smW s h15 h18 := fun a a1 a2 => smC_fw w18 (fun _ q => by omega) (fun _ q => q)
  have wl18 := WL_sm cl15.wl sm18
  have wn18 := WN_sm cl15.2.2.2.2 sm18
  cases hE : eText (zBF Z n) with
  | some e =>
    rw [hE] at c15
    refine xq_ex (c := 2) (h := h18) (if_pos c15.1) ⟨⟨f18, z18⟩, rfl, w, s, f, ?_⟩
    exact XI_er x t f18 (k18.trans kX.symm) (fun j => (r18 X j).trans (r15 j)) i18.2.2.2 i18.1 (i18.2.1.trans c15.2.1) (i18.2.2.1.trans c15.2.2) wl18 wn18
  | none =>
    rw [hE] at c15
    obtain ⟨c1, sm, -, cd⟩ := c15
    have wa := tkE_wa hE
    have ep : xi h15 P 2 = 0 ∧ xi h15 P 3 = -1 := ⟨sm.1.trans ip2, sm.2.trans ip3⟩
    generalize tkE (zBF Z n) = A at *
    refine xq_eb (show FX8_demandFit E v h18 = xv () h18 from if_neg (by rw [c1]; decide)) ?_
    refine xq_g k18 (xq_n ((r18 X 5).trans ((r15 5).trans x2)) (xq_g k18 (xq_n ((r18 X 6).trans ((r15 6).trans x3)) (xq_g k18 (xq_wr (fun h22 e22 => ?_))))))
    have k22 : xk h22 X = 9 := by rw [e22]; exact k18
    refine xq_g k22 (xq_wr (fun h23 e23 => ?_))
    have w23 : fW (fun a j => a = X) (fun a j => a = X) h15 h23 := (w18.wide (fun a j q => q) (fun a j q => q.elim)).trans ((fw_r (A := fun a j => a = X) (R := fun a j => a = X) e22 rfl).trans (fw_r e23 rfl))
    have k23 : xk h23 X = 9 := by rw [e23]; exact k22
    have r23 : xr h23 X 5 = some s ∧ xr h23 X 6 = some w ∧ ∀ j, ¬ j = 5 → ¬ j = 6 → xr h23 X j = xr h X j := by
      refine ⟨?_, ?_, fun j q1 q2 => ?_⟩
      · rw [e23, xr_yr, if_neg (fun q => by cases q.2), e22, xr_yr, if_pos ⟨rfl, rfl⟩]
      · rw [e23, xr_yr, if_pos ⟨rfl, rfl⟩]
      · rw [e23, xr_yr, if_neg (fun q => q2 q.2), e22, xr_yr, if_neg (fun q => q1 q.2), r18]; exact r15 j
    have f23 : LF X s h h23 := ⟨by rw [w23.t]; exact f15.1, fun a a1 a2 a3 => smC_t (f15.2 a a1 a2 a3) (smC_fw w23 (fun _ q => a2 q) (fun _ q => a2 q))⟩
    have sm23 : smW s h15 h23 := fun a a1 a2 => smC_fw w23 (fun _ q => by omega) (fun _ q => by omega)
    have cd23 : CD h23 s (paZ A) (paT A) (paD A) := cd.fw w23 (fun a j q z => by
      subst q
      unfold cdI at z
      rcases z with ⟨s', hs', z⟩ | ⟨g', hg', z⟩ | ⟨m', hm', z⟩ | ⟨b', hb', z⟩ | z <;> omega) (fun a j q z => by
      subst q
      unfold cdR at z
      rcases z with ⟨m', hm', z⟩ | ⟨b', hb', z⟩ <;> omega)
    have wl23 := WL_sm cl15.wl sm23
    have wn23 := WN_sm cl15.2.2.2.2 sm23
    have i23 : ∀ j, xi h23 X j = xi h18 X j := fun j => by rw [e23, xi_yr, e22, xi_yr]
    refine xq_g k23 (xq_n r23.1 (xq_g wl23.1 (xq_b (settle_o wl23 wn23 cd23 wa.2.1 wa.2.2.1) (fun _ h25 q => ?_))))
    obtain ⟨i25, ci25⟩ := q
    have nb25 : ∀ a, ((∃ g, g < 6 ∧ a = s + 14 + 3 * g + 2) ∨ ∃ m, m < 6 ∧ a = s + 32 + 8 * m) → s ≤ a ∧ a < s + 104 := fun a q => by
      rcases q with ⟨g, hg, q⟩ | ⟨m, hm, q⟩ <;> omega
    have z23 : LZ h h23 := LZ_fw z15 w23 (fun a j q => by have q2 : a = X := q; omega)
    have z25 : LZ h h25 := LZ_iw z23 i25 (fun a q => by have := nb25 a q; rw [w23.t]; omega)
    have nX25 : ¬ ((∃ g, g < 6 ∧ X = s + 14 + 3 * g + 2) ∨ ∃ m, m < 6 ∧ X = s + 32 + 8 * m) := fun q => by
      have := nb25 X q
      omega
    have nc25 : NC h25 s (paZ A) := NC_iw wa.2.1 cd23.2.2.2.2.2 i25 (fun a a1 a2 q => by
      rcases q with ⟨g, hg, q⟩ | ⟨m, hm, q⟩ <;> omega)
    have k25 : xk h25 X = 9 := (i25.k _).trans k23
    refine xq_g ⟨k25, Or.inr rfl⟩ (xq_wi (fun h26 e26 => ?_))
    have k26 : xk h26 X = 9 := by rw [e26]; exact k25
    have hF : xo (FX8_forgetChanges E X h26) (fun _ h27 => h27 = yi (yi h26 X 8 0) X 9 0) := by
      unfold FX8_forgetChanges
      refine xo_g k26 (xo_wi (fun h27 e27 => xo_g (by rw [e27]; exact k26) (xo_wi (fun h27' e27' => xo_v (by rw [e27', e27])))))
    refine xq_g k26 (xq_b hF (fun _ h27 e27 => ?_))
    have k27 : xk h27 X = 9 := by rw [e27]; exact k26
    refine xq_g k27 (xq_wi (fun h28 e28 => ?_))
    have k28 : xk h28 X = 9 := by rw [e28]; exact k27
    have w28 : fW (fun a j => a = X) noR h25 h28 := (((fw_i (R := noR) (A := fun a j => a = X) e26 rfl).trans (fw_i (h1 := yi h26 X 8 0) rfl rfl)).trans (fw_i (h1 := h27) e27 rfl)).trans (fw_i e28 rfl)
    have sm28 : smW s h25 h28 := fun a a1 a2 => smC_fw w28 (fun _ q => by omega) (fun _ q => q)
    have ci28 := CI_sm ci25 sm28
    have nc28 := NC_sm wa.2.1 nc25 sm28
    have f28 : LF X s h h28 := ⟨by rw [w28.t, i25.t]; exact f23.1, fun a a1 a2 a3 => smC_t (smC_t (f23.2 a a1 a2 a3) (smC_iw i25 (fun q => a3 (nb25 a q)))) (smC_fw w28 (fun _ q => a2 q) (fun _ q => q))⟩
    have r28 : ∀ j, xr h28 X j = xr h23 X j := fun j => (w28.rn X j).trans (i25.r X j)
    have x25 : ∀ j, xi h25 X j = xi h18 X j := fun j => (i25.i j nX25).trans (i23 j)
    have i28 : xi h28 X 1 = 0 ∧ xi h28 X 2 = 0 ∧ xi h28 X 3 = -1 ∧ xi h28 X 4 = 1 ∧ xi h28 X 8 = 0 ∧ xi h28 X 9 = 0 ∧ xi h28 X 11 = 0 ∧ xi h28 X 13 = xi h X 13 := by
      have o28 : ∀ j, ¬ j = 4 → ¬ j = 8 → ¬ j = 9 → ¬ j = 11 → xi h28 X j = xi h18 X j := fun j q1 q2 q3 q4 => by
        rw [e_o e28 (Or.inr q4), e27, xi_yi2 _ _ (Or.inr q3), xi_yi2 _ _ (Or.inr q2), e_o e26 (Or.inr q1)]; exact x25 j
      refine ⟨?_, ?_, ?_, ?_, ?_, ?_, e_s e28, ?_⟩
      · rw [o28 1 (by decide) (by decide) (by decide) (by decide)]; exact i18.1
      · rw [o28 2 (by decide) (by decide) (by decide) (by decide)]; exact i18.2.1.trans ep.1
      · rw [o28 3 (by decide) (by decide) (by decide) (by decide)]; exact i18.2.2.1.trans ep.2
      · rw [e_o e28 (Or.inr (by decide)), e27, xi_yi2 _ _ (Or.inr (by decide)), xi_yi2 _ _ (Or.inr (by decide)), e_s e26]
      · rw [e_o e28 (Or.inr (by decide)), e27, xi_yi2 _ _ (Or.inr (by decide)), xi_yi1]
      · rw [e_o e28 (Or.inr (by decide)), e27, xi_yi1]
      · rw [o28 13 (by decide) (by decide) (by decide) (by decide)]; exact i18.2.2.2 13 (by omega)
    refine xq_g k28 (xq_n ((r28 5).trans r23.1) (xq_g ci28.wl.1 (xq_n ci28.wl.rm (xq_g ci28.wl.km (xq_v ?_)))))
    have xi28 := XI_ld x t f28 (k28.trans kX.symm) (fun j q1 q2 => (r28 j).trans (r23.2.2 j q1 q2)) ((r28 5).trans r23.1) ((r28 6).trans r23.2.1) i28 ci28 nc28
    have z28 : LZ h h28 := LZ_fw z25 w28 (fun a j q => by have q2 : a = X := q; rw [i25.t, w23.t]; omega)
    refine ⟨⟨f28, z28⟩, ?_, s, w, 0, xi28⟩
    rw [show xi h28 (s + 4) 2 = nI (snm (paZ A)) from ci28.2.1.2.1.2.1]
end LDC
