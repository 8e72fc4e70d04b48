/-! The law's World, and the class beside it. -/
set_option linter.unusedVariables false
/-- the Arrow at A -/
def lA (h : XH) (A f o nt nb : Nat) (tp bt : Nat → Nat) : Prop := (xk h A = 10 ∧ (xi h A 0 = nI f ∧ xi h A 1 = nI o) ∧ xr h A 2 = some (A + 1) ∧ xr h A 3 = some (A + 2)) ∧ ((xk h (A + 1) = 12 ∧ xn h (A + 1) = nt) ∧ ∀ x, x < nt → xi h (A + 1) x = nI (tp x)) ∧ (xk h (A + 2) = 12 ∧ xn h (A + 2) = nb) ∧ ∀ x, x < nb → xi h (A + 2) x = nI (bt x)
/-- the World's own cells -/
def lC (h : XH) (c : Nat) (S : SD) : Prop := (xk h c = 23 ∧ (xr h c 1 = some (c + 3) ∧ xr h c 2 = some (c + 4) ∧ xr h c 3 = some (c + 5) ∧ xr h c 4 = some (c + 6)) ∧ xi h c 5 = nI (sng S) ∧ xi h c 6 = nI (snm S) ∧ xi h c 7 = nI (sna S)) ∧ (xk h (c + 3) = 19 ∧ xn h (c + 3) = 6) ∧ (xk h (c + 4) = 20 ∧ xn h (c + 4) = 6) ∧ (xk h (c + 5) = 26 ∧ xn h (c + 5) = 8) ∧ xk h (c + 6) = 12 ∧ xn h (c + 6) = 3
/-- the World at c holds S and T -/
def lW (h : XH) (c : Nat) (gb mb ab : Nat → Nat) (S : SD) (T : ST) : Prop := lC h c S ∧ (∀ g, g < sng S → xr h (c + 3) g = some (gb g) ∧ lT h (gb g) (sgn S g) (sgt S g)) ∧ (∀ m, m < snm S → xr h (c + 4) m = some (mb m) ∧ (xi h (mb m) 0 = nI (smu S m) ∧ xi h (mb m) 1 = nI (sml S m)) ∧ lM h (mb m) (gb (smu S m)) (gb (sml S m)) (mdS S T m)) ∧ (∀ a, a < sna S → xr h (c + 5) a = some (ab a) ∧ lA h (ab a) (saf S a) (sao S a) (nuS S (saf S a)) (nlS2 S (saf S a)) (ttp T a) (tbt T a)) ∧ (∀ k, k < 3 → xi h (c + 6) k = tcc T k) ∧ WS S ∧ WT S T
/-- where its objects lie, all ahead of X -/
def lO (c : Nat) (gb mb ab : Nat → Nat) (S : SD) (X : Nat) : Prop := (∀ g, g < sng S → c + 6 < gb g ∧ gb g + sgn S g < X ∧ (∀ m, m < snm S → gb g + sgn S g < mb m) ∧ ∀ a, a < sna S → gb g + sgn S g < ab a) ∧ (∀ m, m < snm S → c + 6 < mb m ∧ mb m + 2 + nlS2 S m < X ∧ (∀ m', m < m' → m' < snm S → mb m + 2 + nlS2 S m < mb m') ∧ ∀ a, a < sna S → mb m + 2 + nlS2 S m < ab a) ∧ (∀ a, a < sna S → c + 6 < ab a ∧ ab a + 2 < X ∧ ∀ a', a < a' → a' < sna S → ab a + 2 < ab a') ∧ c + 7 ≤ X
/-- the class at X holds S and T -/
def XQ (h : XH) (X : Nat) (S : SD) (T : ST) : Prop := ∃ w s f Z, XI h X w s f Z ∧ WZ Z ∧ zld Z = true ∧ zS Z = S ∧ zT Z = T ∧ X + 223 ≤ xt h
def GS (h : XH) (X c : Nat) (gb mb ab : Nat → Nat) (S : SD) (T : ST) : Prop := XQ h X S T ∧ lW h c gb mb ab S T ∧ lO c gb mb ab S X
section LWD
variable {E : XG} {h h' : XH} {X c : Nat} {gb mb ab : Nat → Nat} {S : SD} {T : ST} {D : Nat → Prop} {cc uu : Nat}
theorem lW.ws (w : lW h c gb mb ab S T) : WS S := w.2.2.2.2.2.1
theorem lW.wt (w : lW h c gb mb ab S T) : WT S T := w.2.2.2.2.2.2
theorem lW.k (w : lW h c gb mb ab S T) : xk h c = 23 := w.1.1.1
theorem lW.r1 (w : lW h c gb mb ab S T) : xr h c 1 = some (c + 3) := w.1.1.2.1.1
theorem lW.r2 (w : lW h c gb mb ab S T) : xr h c 2 = some (c + 4) := w.1.1.2.1.2.1
theorem lW.r3 (w : lW h c gb mb ab S T) : xr h c 3 = some (c + 5) := w.1.1.2.1.2.2.1
theorem lW.r4 (w : lW h c gb mb ab S T) : xr h c 4 = some (c + 6) := w.1.1.2.1.2.2.2
theorem lW.i5 (w : lW h c gb mb ab S T) : xi h c 5 = nI (sng S) := w.1.1.2.2.1
theorem lW.i6 (w : lW h c gb mb ab S T) : xi h c 6 = nI (snm S) := w.1.1.2.2.2.1
theorem lW.i7 (w : lW h c gb mb ab S T) : xi h c 7 = nI (sna S) := w.1.1.2.2.2.2
theorem lW.k3 (w : lW h c gb mb ab S T) : xk h (c + 3) = 19 ∧ xn h (c + 3) = 6 := w.1.2.1
theorem lW.k4 (w : lW h c gb mb ab S T) : xk h (c + 4) = 20 ∧ xn h (c + 4) = 6 := w.1.2.2.1
theorem lW.k5 (w : lW h c gb mb ab S T) : xk h (c + 5) = 26 ∧ xn h (c + 5) = 8 := w.1.2.2.2.1
theorem lW.k6 (w : lW h c gb mb ab S T) : xk h (c + 6) = 12 ∧ xn h (c + 6) = 3 := w.1.2.2.2.2
theorem lW.tb (w : lW h c gb mb ab S T) {g : Nat} (hg : g < sng S) : lT h (gb g) (sgn S g) (sgt S g) := (w.2.1 g hg).2
theorem lW.md (w : lW h c gb mb ab S T) {m : Nat} (hm : m < snm S) : lM h (mb m) (gb (smu S m)) (gb (sml S m)) (mdS S T m) := (w.2.2.1 m hm).2.2
theorem lW.hi (w : lW h c gb mb ab S T) {m : Nat} (hm : m < snm S) : xi h (mb m) 0 = nI (smu S m) := (w.2.2.1 m hm).2.1.1
theorem lW.lo (w : lW h c gb mb ab S T) {m : Nat} (hm : m < snm S) : xi h (mb m) 1 = nI (sml S m) := (w.2.2.1 m hm).2.1.2
theorem lW.ar (w : lW h c gb mb ab S T) {a : Nat} (ha : a < sna S) : lA h (ab a) (saf S a) (sao S a) (nuS S (saf S a)) (nlS2 S (saf S a)) (ttp T a) (tbt T a) := (w.2.2.2.1 a ha).2
theorem lW.ac (w : lW h c gb mb ab S T) {k : Nat} (hk : k < 3) : xi h (c + 6) k = tcc T k := w.2.2.2.2.1 k hk
theorem lW.g6 (w : lW h c gb mb ab S T) : sng S ≤ 6 := w.ws.1.1
theorem lW.m6 (w : lW h c gb mb ab S T) : snm S ≤ 6 := w.ws.1.2.1
theorem lW.a8 (w : lW h c gb mb ab S T) : sna S ≤ 8 := w.ws.1.2.2
theorem lgrow {α : Type} (w : lW h c gb mb ab S T) {g : Nat} (hg : g < sng S) (f : Nat → XP α) : xg (xk h (c + 3) = 19 ∧ xin (nI g) (xn h (c + 3))) (xnn (xr h (c + 3) (nI g).toNatClampNeg) f) = f (gb g) := by
  have := w.g6
  rw [xg_t ⟨w.k3.1, by rw [w.k3.2]; exact xin_nI (by omega) (by omega)⟩, xnn_e (by rw [xz_nI (by omega)]; exact (w.2.1 g hg).1)]
theorem lmrow {α : Type} (w : lW h c gb mb ab S T) {m : Nat} (hm : m < snm S) (f : Nat → XP α) : xg (xk h (c + 4) = 20 ∧ xin (nI m) (xn h (c + 4))) (xnn (xr h (c + 4) (nI m).toNatClampNeg) f) = f (mb m) := by
  have := w.m6
  rw [xg_t ⟨w.k4.1, by rw [w.k4.2]; exact xin_nI (by omega) (by omega)⟩, xnn_e (by rw [xz_nI (by omega)]; exact (w.2.2.1 m hm).1)]
theorem larow {α : Type} (w : lW h c gb mb ab S T) {a : Nat} (ha : a < sna S) (f : Nat → XP α) : xg (xk h (c + 5) = 26 ∧ xin (nI a) (xn h (c + 5))) (xnn (xr h (c + 5) (nI a).toNatClampNeg) f) = f (ab a) := by
  have := w.a8
  rw [xg_t ⟨w.k5.1, by rw [w.k5.2]; exact xin_nI (by omega) (by omega)⟩, xnn_e (by rw [xz_nI (by omega)]; exact (w.2.2.2.1 a ha).1)]
theorem lA_sm {A f o nt nb : Nat} {tp bt : Nat → Nat} (q : lA h A f o nt nb tp bt) (e0 : smC A h h') (e1 : smC (A + 1) h h') (e2 : smC (A + 2) h h') : lA h' A f o nt nb tp bt :=
  ⟨⟨e0.1.1.trans q.1.1, ⟨(e0.2.1 _).trans q.1.2.1.1, (e0.2.1 _).trans q.1.2.1.2⟩, (e0.2.2.2 _).trans q.1.2.2.1, (e0.2.2.2 _).trans q.1.2.2.2⟩, ⟨⟨e1.1.1.trans q.2.1.1.1, e1.1.2.trans q.2.1.1.2⟩, fun x hx => (e1.2.1 _).trans (q.2.1.2 x hx)⟩, ⟨e2.1.1.trans q.2.2.1.1, e2.1.2.trans q.2.2.1.2⟩, fun x hx => (e2.2.1 _).trans (q.2.2.2 x hx)⟩
theorem lC_sm (q : lC h c S) (e : ∀ a, c ≤ a → a < c + 7 → smC a h h') : lC h' c S := by
  obtain ⟨⟨q1, ⟨q2, q3, q4, q5⟩, q6, q7, q8⟩, ⟨p1, p2⟩, ⟨p3, p4⟩, ⟨p5, p6⟩, p7, p8⟩ := q
  have e0 := e c (by omega) (by omega)
  have e3 := e (c + 3) (by omega) (by omega)
  have e4 := e (c + 4) (by omega) (by omega)
  have e5 := e (c + 5) (by omega) (by omega)
  have e6 := e (c + 6) (by omega) (by omega)
  exact ⟨⟨e0.1.1.trans q1, ⟨(e0.2.2.2 _).trans q2, (e0.2.2.2 _).trans q3, (e0.2.2.2 _).trans q4, (e0.2.2.2 _).trans q5⟩, (e0.2.1 _).trans q6, (e0.2.1 _).trans q7, (e0.2.1 _).trans q8⟩, ⟨e3.1.1.trans p1, e3.1.2.trans p2⟩, ⟨e4.1.1.trans p3, e4.1.2.trans p4⟩, ⟨e5.1.1.trans p5, e5.1.2.trans p6⟩, e6.1.1.trans p7, e6.1.2.trans p8⟩
theorem mReg_in (o : lO c gb mb ab S X) (W : WS S) {m : Nat} (hm : m < snm S) {a : Nat} (q : mReg (mb m) (gb (smu S m)) (gb (sml S m)) (mdS S T m) a) : c ≤ a ∧ a < X := by
  obtain ⟨q1, q2⟩ := W.2.2.1 m hm
  have o1 := o.1 _ q1
  have o2 := o.1 _ q2
  have o3 := o.2.1 m hm
  have e1 : dnu (mdS S T m) = sgn S (smu S m) := rfl
  have e2 : dnl (mdS S T m) = sgn S (sml S m) := rfl
  have e3 : nlS2 S m = sgn S (sml S m) := rfl
  unfold mReg at q
  rw [e1, e2] at q
  rw [e3] at o3
  omega
theorem lW_sm (w : lW h c gb mb ab S T) (o : lO c gb mb ab S X) (e : ∀ a, c ≤ a → a < X → smC a h h') : lW h' c gb mb ab S T := by
  have o4 := o.2.2.2
  refine ⟨lC_sm w.1 (fun a a1 a2 => e a a1 (by omega)), fun g hg => ⟨((e (c + 3) (by omega) (by omega)).2.2.2 _).trans (w.2.1 g hg).1, lV_sm (w.tb hg) (fun a a1 a2 => ?_)⟩, fun m hm => ?_, fun a ha => ?_, fun k hk => ((e (c + 6) (by omega) (by omega)).2.1 _).trans (w.ac hk), w.ws, w.wt⟩
  · have := o.1 g hg
    exact e a (by omega) (by omega)
  · have o3 := o.2.1 m hm
    have em := e (mb m) (by omega) (by omega)
    exact ⟨((e (c + 4) (by omega) (by omega)).2.2.2 _).trans (w.2.2.1 m hm).1, ⟨(em.2.1 _).trans (w.hi hm), (em.2.1 _).trans (w.lo hm)⟩, lM_sm (w.md hm) (fun a q => by
      have := mReg_in o w.ws hm q
      exact e a this.1 this.2)⟩
  · have o3 := o.2.2.1 a ha
    exact ⟨((e (c + 5) (by omega) (by omega)).2.2.2 _).trans (w.2.2.2.1 a ha).1, lA_sm (w.ar ha) (e _ (by omega) (by omega)) (e _ (by omega) (by omega)) (e _ (by omega) (by omega))⟩
theorem GS.x (g : GS h X c gb mb ab S T) : XQ h X S T := g.1
theorem GS.w (g : GS h X c gb mb ab S T) : lW h c gb mb ab S T := g.2.1
theorem GS.o (g : GS h X c gb mb ab S T) : lO c gb mb ab S X := g.2.2
theorem GS.t (g : GS h X c gb mb ab S T) : X + 223 ≤ xt h := by obtain ⟨⟨_, _, _, _, _, _, _, _, _, t⟩, -⟩ := g; exact t
theorem XQ_n (x : XQ h X S T) (g : Gr D cc uu h h') (d : ∀ a, X ≤ a → a < X + 223 → ¬ D a) : XQ h' X S T := by
  obtain ⟨w, s, f, Z, x1, z, hl, e1, e2, t⟩ := x
  exact ⟨w, s, f, Z, XI_gr x1 g t d, z, hl, e1, e2, Nat.le_trans t g.t⟩
theorem GS_n (q : GS h X c gb mb ab S T) (g : Gr nD cc uu h h') : GS h' X c gb mb ab S T := by
  have t := q.t
  exact ⟨XQ_n q.x g (fun _ _ _ z => z), lW_sm q.w q.o (fun a a1 a2 => g.s (by omega) (fun z => z)), q.o⟩
theorem GS_iw (q : GS h X c gb mb ab S T) (i : iw (rXP X) h h') : GS h' X c gb mb ab S T ∧ Gr (rXa X) 0 0 h h' := by
  have t := q.t
  obtain ⟨⟨w, s, f, Z, x1, z, hl, e1, e2, _⟩, q2, q3⟩ := q
  refine ⟨⟨⟨w, s, f, Z, XI_iw x1 i (fun a y => Or.inr (Or.inr y)), z, hl, e1, e2, by rw [i.t]; exact t⟩, lW_sm q2 q3 (fun a a1 a2 => smC_iw i (fun y => ?_)), q3⟩, Gr_iw (Gr_refl _ h) i (fun a y => ?_)⟩
  · have := rXP_a y
    unfold rXa at this
    omega
  · have := rXP_a y
    exact ⟨by unfold rXa at this; omega, fun _ => this⟩
theorem GS_mb (q : GS h X c gb mb ab S T) {m : Nat} (hm : m < snm S) : lMB h (mb m) (gb (smu S m)) (gb (sml S m)) (mdS S T m) := by
  have t := q.t
  refine ⟨q.w.md hm, ?_, ?_, ?_⟩
  · have := mReg_in (T := T) q.o q.w.ws hm (a := gb (smu S m) + dnu (mdS S T m)) (Or.inl ⟨by omega, by omega⟩); omega
  · have := mReg_in (T := T) q.o q.w.ws hm (a := gb (sml S m) + dnl (mdS S T m)) (Or.inr (Or.inl ⟨by omega, by omega⟩)); omega
  · have := mReg_in (T := T) q.o q.w.ws hm (a := mb m + 2 + dnl (mdS S T m)) (Or.inr (Or.inr ⟨by omega, by omega⟩)); omega
theorem GS.lw (q : GS h X c gb mb ab S T) {m : Nat} (hm : m < snm S) (h0 : whS S T m = 0) : LW (mdS S T m) := LW_of (q.w.md hm).w (q.w.md hm).g h0
theorem whS_9 (S : SD) (T : ST) (m : Nat) : whS S T m < 9 := by
  unfold whS whyS
  repeat (first | split | omega)
theorem llaw_v (w : lW h c gb mb ab S T) : FX12_lawful E c h = xv (lawS S T) h := by
  have m6 := w.m6
  unfold FX12_lawful
  refine xlp_all (fun i => (orI (fun m => if whS S T m = 0 then sh m else 0) i, nI i)) (fun _ => h) (snm S) (by omega) (fun i hi ag => ?_) (fun ag => ?_)
  · have w9 := whS_9 S T i
    dsimp only
    rw [xg_t w.k, if_neg (by rw [w.i6]; exact nI_ge hi (by omega)), xg_t w.k, xnn_e w.r2, lmrow w hi, xg_t (w.md hi).k, xb_eq (lwhy_v (w.md hi)), xjn_d, sh_d, orI_s, nI_s]
    by_cases q : whS S T i = 0
    · rw [if_pos (by rw [show whyS (mdS S T i) = 0 from q]; rfl), if_pos q]
      rfl
    · rw [if_neg (by rw [nI_eq0 (show whyS (mdS S T i) < 2 ^ 31 from by have : whyS (mdS S T i) < 9 := w9; omega)]; exact q), if_neg q]
      rfl
  · dsimp only
    rw [xg_t w.k, if_pos (by rw [w.i6]; exact Int32.le_refl _)]
    rfl
theorem lA.rt {A f o nt nb : Nat} {tp bt : Nat → Nat} (q : lA h A f o nt nb tp bt) {x : Nat} (hx : x < nt) (h8 : nt < 2 ^ 31) : (xk h (A + 1) = 12 ∧ xin (nI x) (xn h (A + 1))) ∧ xi h (A + 1) (nI x).toNatClampNeg = nI (tp x) := ⟨⟨q.2.1.1.1, by rw [q.2.1.1.2]; exact xin_nI hx h8⟩, by rw [xz_nI (by omega)]; exact q.2.1.2 x hx⟩
theorem lA.rb {A f o nt nb : Nat} {tp bt : Nat → Nat} (q : lA h A f o nt nb tp bt) {x : Nat} (hx : x < nb) (h8 : nb < 2 ^ 31) : (xk h (A + 2) = 12 ∧ xin (nI x) (xn h (A + 2))) ∧ xi h (A + 2) (nI x).toNatClampNeg = nI (bt x) := ⟨⟨q.2.2.1.1, by rw [q.2.2.1.2]; exact xin_nI hx h8⟩, by rw [xz_nI (by omega)]; exact q.2.2.2 x hx⟩
theorem like_v (q : GS h X c gb mb ab S T) : FL_isLike E X c h = xv 1 h := by
  obtain ⟨⟨w0, s0, f0, Z, x, z, hl, e1, e2, t⟩, w, o⟩ := q
  subst e1; subst e2
  have g6 := w.g6
  have m6 := w.m6
  have a8 := w.a8
  have bm : ∀ m, m < snm (zS Z) → nuS (zS Z) m ≤ 8 ∧ nlS2 (zS Z) m ≤ 8 := fun m hm => ⟨(x.bm hm).2.2.2.1, (x.bm hm).2.2.2.2⟩
  unfold FL_isLike
  rw [xg_t x.k, xb_eq (show FX8_count E X 0 h = xv (nI (sng (zS Z))) h from c8_count x hl (k := 0) (by omega)), xg_t w.k, xjn_d, w.i5, if_pos rfl, xg_t x.k, xb_eq (show FX8_count E X 1 h = xv (nI (snm (zS Z))) h from c8_count x hl (k := 1) (by omega)), xg_t w.k, w.i6, if_pos rfl, xg_t x.k, xb_eq (show FX8_count E X 2 h = xv (nI (sna (zS Z))) h from c8_count x hl (k := 2) (by omega)), xg_t w.k, w.i7, if_pos rfl, xg_t x.k, xb_eq (c8_lawful x hl), xg_t w.k, xb_eq (llaw_v w), if_pos rfl]
  refine xlp_all (fun i => nI i) (fun _ => h) (snm (zS Z)) (by omega) (fun m hm ag => ?_) (fun ag => ?_)
  · have M := w.md hm
    obtain ⟨b1, b2⟩ := bm m hm
    have u8 := M.u8
    have l8 := M.l8
    rw [xg_t w.k, if_neg (by rw [w.i6]; exact nI_ge hm (by omega)), xg_t w.k, xnn_e w.r2, lmrow w hm]
    refine xlp_all (fun i => nI i) (fun _ => h) (nuS (zS Z) m) (by omega) (fun a ha ag2 => ?_) (fun ag2 => ?_)
    · rw [xg_t M.k, xnn_e M.r5, xg_t M.kb, if_neg (by rw [M.nb]; exact nI_ge ha (by omega)), xg_t x.k, xb_eq (c8_boundary x hl hm ha), xg_t M.k, xnn_e M.r5, xg_t (M.bg ha), if_pos (show nI (tbd (zT Z) m a) = _ from (M.bv ha).symm)]
      refine xlp_all (fun i => nI i) (fun _ => h) (nlS2 (zS Z) m) (by omega) (fun g hg ag3 => ?_) (fun ag3 => ?_)
      · rw [xg_t M.k, xnn_e M.r4, xg_t M.a.1.1.1, if_neg (by rw [M.a.1.1.2]; exact nI_ge hg (by omega)), xg_t x.k, xb_eq (c8_act x hl hm hg ha), xg_t M.k, xnn_e M.r4, lrow M.a.1 l8 hg, xg_t (lS_c M.a.1 hg ha u8), if_pos (show nI (tac (zT Z) m g a) = _ from (lV_v M.a hg ha u8).symm), nI_s]
      · rw [xg_t M.k, xnn_e M.r4, xg_t M.a.1.1.1, if_pos (by rw [M.a.1.1.2]; exact Int32.le_refl _), nI_s]
    · rw [xg_t M.k, xnn_e M.r5, xg_t M.kb, if_pos (by rw [M.nb]; exact Int32.le_refl _), nI_s]
  · rw [xg_t w.k, if_pos (by rw [w.i6]; exact Int32.le_refl _)]
    refine xlp_all (fun i => nI i) (fun _ => h) (sna (zS Z)) (by omega) (fun a ha ag2 => ?_) (fun ag2 => ?_)
    · have A := w.ar ha
      have ba := x.ba ha
      obtain ⟨b1, b2⟩ := bm _ ba.2.1
      rw [xg_t w.k, if_neg (by rw [w.i7]; exact nI_ge ha (by omega))]
      refine xlp_all (fun i => nI i) (fun _ => h) (nuS (zS Z) (saf (zS Z) a)) (by omega) (fun y hy ag3 => ?_) (fun ag3 => ?_)
      · obtain ⟨r1, r2⟩ := A.rt hy (by omega)
        rw [xg_t w.k, xnn_e w.r3, larow w ha, xg_t A.1.1, xnn_e A.1.2.2.1, xg_t A.2.1.1.1, if_neg (by rw [A.2.1.1.2]; exact nI_ge hy (by omega)), xg_t x.k, xb_eq (c8_top x hl ha hy), xg_t w.k, xnn_e w.r3, larow w ha, xg_t A.1.1, xnn_e A.1.2.2.1, xg_t r1, if_pos r2.symm, nI_s]
      · rw [xg_t w.k, xnn_e w.r3, larow w ha, xg_t A.1.1, xnn_e A.1.2.2.1, xg_t A.2.1.1.1, if_pos (by rw [A.2.1.1.2]; exact Int32.le_refl _)]
        refine xlp_all (fun i => nI i) (fun _ => h) (nlS2 (zS Z) (saf (zS Z) a)) (by omega) (fun y hy ag4 => ?_) (fun ag4 => ?_)
        · obtain ⟨r1, r2⟩ := A.rb hy (by omega)
          rw [xg_t w.k, xnn_e w.r3, larow w ha, xg_t A.1.1, xnn_e A.1.2.2.2, xg_t A.2.2.1.1, if_neg (by rw [A.2.2.1.2]; exact nI_ge hy (by omega)), xg_t x.k, xb_eq (c8_bottom x hl ha hy), xg_t w.k, xnn_e w.r3, larow w ha, xg_t A.1.1, xnn_e A.1.2.2.2, xg_t r1, if_pos r2.symm, nI_s]
        · rw [xg_t w.k, xnn_e w.r3, larow w ha, xg_t A.1.1, xnn_e A.1.2.2.2, xg_t A.2.2.1.1, if_pos (by rw [A.2.2.1.2]; exact Int32.le_refl _), nI_s]
    · rw [xg_t w.k, if_pos (by rw [w.i7]; exact Int32.le_refl _)]
      refine xlp_all (fun i => nI i) (fun _ => h) 3 (by omega) (fun k hk ag3 => ?_) (fun ag3 => ?_)
      · rw [if_neg (show ¬ (3 : Int32) ≤ nI k by rw [li3, nI_leP (by omega) (by omega)]; omega), xg_t x.k, xb_eq (c8_account x hl hk), xg_t w.k, xnn_e w.r4, xg_t ⟨w.k6.1, by rw [w.k6.2]; exact xin_nI hk (by omega)⟩, if_pos (by rw [xz_nI (by omega)]; exact (w.ac hk).symm), nI_s]
      · rw [if_pos (by decide)]
        exact xg_t (Or.inr rfl)
end LWD
