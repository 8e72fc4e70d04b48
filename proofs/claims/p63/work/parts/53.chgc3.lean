/-! Changes, the class: each of them. -/
set_option linter.unusedVariables false
/-- one step of an act made anew, and how many others there were -/
def stA (m : Nat) (e : Nat → Nat → Nat) (g a : Nat) (p : ST × Int32) : ST × Int32 := (Tac p.1 m g a (e g a), p.2 + if tac p.1 m g a = e g a then 0 else 1)
def foA (m : Nat) (e : Nat → Nat → Nat) (g : Nat) (p : ST × Int32) : Nat → ST × Int32 := fld (fun a p => stA m e g a p) p
def foB (m : Nat) (e : Nat → Nat → Nat) (nu : Nat) (T : ST) : Nat → ST × Int32 := fld (fun g p => foA m e g p nu) (T, 0)
theorem whS_bd (S : SD) (T : ST) {m a v k : Nat} (hk : ¬ k = m) : whS S (Tbd T m a v) k = whS S T k := by
  have e : (fun a' => if k = m ∧ a' = a then v else tbd T k a') = tbd T k := funext fun a' => if_neg (fun q => hk q.1)
  show whyS (_, _, _, _, _, _, (fun a' => if k = m ∧ a' = a then v else tbd T k a'), _) = _
  rw [e]
  rfl
theorem whS_ac (S : SD) (T : ST) {m g a v k : Nat} (hk : ¬ k = m) : whS S (Tac T m g a v) k = whS S T k := by
  have e : (fun g' a' => if k = m ∧ g' = g ∧ a' = a then v else tac T k g' a') = tac T k := funext fun g' => funext fun a' => if_neg (fun q => hk q.1)
  show whyS (_, _, _, _, _, _, _, (fun g' a' => if k = m ∧ g' = g ∧ a' = a then v else tac T k g' a')) = _
  rw [e]
  rfl
section CHD
variable {E : XG} {h : XH} {X w s f : Nat} {Z : ZD}
theorem chI {h' : XH} {f' : Nat} (x : XI h' X w s f' (zch Z)) : CI h' w (zS Z) (T1 (zT Z)) := by
  have := x.ci
  rw [zch_S, zch_T] at this
  exact this
theorem chT {h' h2 : XH} {B : Nat → Prop} {f' : Nat} {T' : ST} (x : XI h' X w s f' (zch Z)) (i : iw B h' h2) (hB : ∀ a, B a → rTS w a) (ci : CI h2 w (zS Z) T') : XI h2 X w s f' (zsT (zch Z) T') := XI_T x i hB (by rw [zch_S]; exact ci)
theorem rTS_X {a : Nat} (x : XI h X w s f Z) (q : rTS w a) : rXa X a := by
  have := x.ws
  unfold rTS at q
  unfold rXa
  omega
/-- a module changed: judged anew -/
def zjd (Z : ZD) (m : Nat) (T : ST) : ZD := zsT (zch Z) (Tjd T (whS (zS Z) (zT Z) m) (whS (zS Z) T m))
/-- the end of a change of a module -/
theorem judge_o {α : Type} {h1 h2 : XH} {f' m : Nat} {B : Nat → Prop} {T : ST} {r : α} (x1 : XI h1 X w s f' (zch Z)) (i : iw B h1 h2) (hB : ∀ a, B a → a = w + 32 + 8 * m + 1 ∨ a = w + 32 + 8 * m + 2) (M2 : CIx h2 w (zS Z) T (whS (zS Z) (zT Z))) (hm : m < snm (zS Z)) (e : ∀ k, k < snm (zS Z) → ¬ k = m → whS (zS Z) (zT Z) k = whS (zS Z) T k) : xo (xg (xk h2 X = 9) <| xnn (xr h2 X 5) fun w14 => xg (xk h2 w14 = 8) <| xb (FX7_judgeAgain E w14 (w + 32 + 8 * m) h2) fun _ h15 => xv r h15) (fun v h' => v = r ∧ iw (rXa X) h1 h' ∧ ∃ w s f, XI h' X w s f (zjd Z m T)) := by
  have h6 := M2.1.1.1.2.1
  have ws := x1.ws
  refine xo_g (by rw [i.k]; exact x1.k) (xo_n (by rw [i.r]; exact x1.w5) (xo_g M2.2.1.1.1.1 (xo_b (FX7_judgeAgain_o M2 hm (whS_le _ _ _) e) (fun _ h3 q3 => ?_))))
  obtain ⟨i3, c3⟩ := q3
  have i4 : iw (rTS w) h1 h3 := i.trans i3 (fun a q => by have := hB a q; unfold rTS; omega) (fun a q => by unfold rTS; omega)
  exact xo_v ⟨rfl, i4.wide (fun a q => rTS_X x1 q), w, s, f', chT x1 i4 (fun _ q => q) c3⟩
theorem C_setBoundary (x : XI h X w s f Z) (z : WZ Z) (hl : zld Z = true) {m a v : Nat} (hm : m < snm (zS Z)) (ha : a < nuS (zS Z) m) (hv : v < nlS2 (zS Z) m) : xo (FX8_setBoundary E X (nI m) (nI a) (nI v) h) (fun r h' => r = nI (tbd (zT Z) m a) ∧ iw (rXa X) h h' ∧ ∃ w s f, XI h' X w s f (zjd Z m (Tbd (T1 (zT Z)) m a v))) := by
  have C := x.ci.cm hm
  have u8 : nuS (zS Z) m ≤ 8 := C.wd.1.2.1
  unfold FX8_setBoundary
  refine xo_g x.k (xo_eb (FX8_moduleAt_v x hl hm) (xo_g C.k (xo_n C.u (xo_g C.uk (xo_eb (has_t C.2.2.1.1 C.2.2.1.2.1 ha) (xo_jn (xo_jn (xo_f (by decide) (xo_g C.k (xo_n C.l (xo_g C.lk (xo_eb (has_t C.2.2.2.1.1 C.2.2.2.1.2.1 hv) (xo_f (by decide) (xo_eb (show FX8_demandThere E 1 h = xv () h from rfl) (xo_g C.k (xo_eb (C.bd ha) (xo_g x.k (xo_b (FX8_beginChange_o x z.2.2.1.1) (fun _ h1 q1 => ?_)))))))))))))))))))
  obtain ⟨i1, f1, x1⟩ := q1
  have M1 := chI x1
  have C1 := M1.cm hm
  refine xo_g C1.k (xo_n C1.1.2.1.1 (xo_eb (FX8_put_in C1.1.2.1.2.1 C1.1.2.1.2.2 (show a < 8 by omega) (by omega)) ?_))
  have M2 := CIx_bd M1.x hm ha hv
  refine xo_w (judge_o (E := E) (m := m) x1 (iw_yi (A := fun a => a = w + 32 + 8 * m + 1) _ _ _ _ rfl) (fun a q => Or.inl q) M2 hm (fun k _ hk => (whS_bd (zS Z) (T1 (zT Z)) hk).symm)) (fun v h' q => ⟨q.1, i1.trans q.2.1 (fun _ q => q) (fun _ q => q), q.2.2⟩)
theorem C_setAct (x : XI h X w s f Z) (z : WZ Z) (hl : zld Z = true) {m g a v : Nat} (hm : m < snm (zS Z)) (hg : g < nlS2 (zS Z) m) (ha : a < nuS (zS Z) m) (hv : v < nuS (zS Z) m) : xo (FX8_setAct E X (nI m) (nI g) (nI a) (nI v) h) (fun r h' => r = nI (tac (zT Z) m g a) ∧ iw (rXa X) h h' ∧ ∃ w s f, XI h' X w s f (zjd Z m (Tac (T1 (zT Z)) m g a v))) := by
  have C := x.ci.cm hm
  have u8 : nuS (zS Z) m ≤ 8 := C.wd.1.2.1
  have l8 : nlS2 (zS Z) m ≤ 8 := C.wd.1.2.2.2
  unfold FX8_setAct
  refine xo_g x.k (xo_eb (FX8_moduleAt_v x hl hm) (xo_g C.k (xo_n C.l (xo_g C.lk (xo_eb (has_t C.2.2.2.1.1 C.2.2.2.1.2.1 hg) (xo_jn (xo_jn (xo_f (by decide) (xo_g C.k (xo_n C.u (xo_g C.uk (xo_eb (has_t C.2.2.1.1 C.2.2.1.2.1 ha) (xo_f (by decide) (xo_g C.k (xo_n C.u (xo_g C.uk (xo_eb (has_t C.2.2.1.1 C.2.2.1.2.1 hv) (xo_f (by decide) (xo_eb (show FX8_demandThere E 1 h = xv () h from rfl) (xo_g C.k (xo_eb (C.ac hg ha) (xo_g x.k (xo_b (FX8_beginChange_o x z.2.2.1.1) (fun _ h1 q1 => ?_))))))))))))))))))))))))
  obtain ⟨i1, f1, x1⟩ := q1
  have M1 := chI x1
  have C1 := M1.cm hm
  rw [nI_8]
  refine xo_g C1.k (xo_n C1.1.2.2.1.1 (xo_eb (FX8_put_in C1.1.2.2.1.2.1 C1.1.2.2.1.2.2 (show 8 * g + a < 64 by omega) (by omega)) ?_))
  have M2 := CIx_ac M1.x hm hg ha hv
  refine xo_w (judge_o (E := E) (m := m) x1 (iw_yi (A := fun a => a = w + 32 + 8 * m + 2) _ _ _ _ rfl) (fun a q => Or.inr q) M2 hm (fun k _ hk => (whS_ac (zS Z) (T1 (zT Z)) hk).symm)) (fun v h' q => ⟨q.1, i1.trans q.2.1 (fun _ q => q) (fun _ q => q), q.2.2⟩)
theorem C_setTop (x : XI h X w s f Z) (z : WZ Z) (hl : zld Z = true) {a b v : Nat} (ha : a < sna (zS Z)) (hb : b < nuS (zS Z) (saf (zS Z) a)) (hv : v < nuS (zS Z) (sao (zS Z) a)) : xo (FX8_setTop E X (nI a) (nI b) (nI v) h) (fun r h' => r = nI (ttp (zT Z) a b) ∧ iw (rXa X) h h' ∧ ∃ w s f, XI h' X w s f (zsT (zch Z) (Ttp (T1 (zT Z)) a b v))) := by
  have A := x.ci.ca ha
  have u8 : nuS (zS Z) (saf (zS Z) a) ≤ 8 := A.cf.wd.1.2.1
  unfold FX8_setTop
  refine xo_g x.k (xo_eb (FX8_arrowAt_v x hl ha) (xo_g A.k (xo_n A.f (xo_g A.cf.k (xo_n A.cf.u (xo_g A.cf.uk (xo_eb (has_t A.cf.2.2.1.1 A.cf.2.2.1.2.1 hb) (xo_jn (xo_jn (xo_f (by decide) (xo_g A.k (xo_n A.o (xo_g A.co.k (xo_n A.co.u (xo_g A.co.uk (xo_eb (has_t A.co.2.2.1.1 A.co.2.2.1.2.1 hv) (xo_f (by decide) (xo_eb (show FX8_demandThere E 1 h = xv () h from rfl) (xo_g A.k (xo_eb (A.tpv hb) (xo_g x.k (xo_b (FX8_beginChange_o x z.2.2.1.1) (fun _ h1 q1 => ?_)))))))))))))))))))))))
  obtain ⟨i1, f1, x1⟩ := q1
  have M1 := chI x1
  have l1 := (M1.ca ha).1
  have hs := M1.1.1.1.2.2
  refine xo_g l1.1 (xo_n l1.2.1.1 (xo_eb (FX8_put_in l1.2.1.2.1 l1.2.1.2.2 (show b < 8 by omega) (by omega)) (xo_v ⟨rfl, i1.yi _ _ _ (rTS_X x1 (by unfold rTS; omega)), w, s, f1, chT x1 (iw_yi (A := fun b => b = w + 80 + 3 * a + 1) _ _ _ _ rfl) (fun b q => by unfold rTS; omega) ((CIx_tp M1.x ha hb hv).ci (fun _ _ => rfl))⟩)))
theorem C_setBottom (x : XI h X w s f Z) (z : WZ Z) (hl : zld Z = true) {a b v : Nat} (ha : a < sna (zS Z)) (hb : b < nlS2 (zS Z) (saf (zS Z) a)) (hv : v < nlS2 (zS Z) (sao (zS Z) a)) : xo (FX8_setBottom E X (nI a) (nI b) (nI v) h) (fun r h' => r = nI (tbt (zT Z) a b) ∧ iw (rXa X) h h' ∧ ∃ w s f, XI h' X w s f (zsT (zch Z) (Tbt (T1 (zT Z)) a b v))) := by
  have A := x.ci.ca ha
  have u8 : nlS2 (zS Z) (saf (zS Z) a) ≤ 8 := A.cf.wd.1.2.2.2
  unfold FX8_setBottom
  refine xo_g x.k (xo_eb (FX8_arrowAt_v x hl ha) (xo_g A.k (xo_n A.f (xo_g A.cf.k (xo_n A.cf.l (xo_g A.cf.lk (xo_eb (has_t A.cf.2.2.2.1.1 A.cf.2.2.2.1.2.1 hb) (xo_jn (xo_jn (xo_f (by decide) (xo_g A.k (xo_n A.o (xo_g A.co.k (xo_n A.co.l (xo_g A.co.lk (xo_eb (has_t A.co.2.2.2.1.1 A.co.2.2.2.1.2.1 hv) (xo_f (by decide) (xo_eb (show FX8_demandThere E 1 h = xv () h from rfl) (xo_g A.k (xo_eb (A.btv hb) (xo_g x.k (xo_b (FX8_beginChange_o x z.2.2.1.1) (fun _ h1 q1 => ?_)))))))))))))))))))))))
  obtain ⟨i1, f1, x1⟩ := q1
  have M1 := chI x1
  have l1 := (M1.ca ha).1
  have hs := M1.1.1.1.2.2
  refine xo_g l1.1 (xo_n l1.2.2.1 (xo_eb (FX8_put_in l1.2.2.2.1 l1.2.2.2.2 (show b < 8 by omega) (by omega)) (xo_v ⟨rfl, i1.yi _ _ _ (rTS_X x1 (by unfold rTS; omega)), w, s, f1, chT x1 (iw_yi (A := fun b => b = w + 80 + 3 * a + 2) _ _ _ _ rfl) (fun b q => by unfold rTS; omega) ((CIx_bt M1.x ha hb hv).ci (fun _ _ => rfl))⟩)))
theorem replace_v {S : SD} {T : ST} {wh : Nat → Nat} {m g a v : Nat} (M : CIx h w S T wh) (hm : m < snm S) (hg : g < nlS2 S m) (ha : a < nuS S m) (hv : v < nuS S m) : FX1_replaceAction E (w + 32 + 8 * m) (nI g) (nI a) (nI v) h = xv (if tac T m g a = v then 0 else 1) (yi h (w + 32 + 8 * m + 2) (8 * g + a) (nI v)) := by
  have C := M.cm hm
  have u8 : nuS S m ≤ 8 := C.wd.1.2.1
  have l8 : nlS2 S m ≤ 8 := C.wd.1.2.2.2
  have tv : tac T m g a < nuS S m := M.1.2.2.1 m g a hm hg ha
  unfold FX1_replaceAction
  rw [nI_8]
  (try dsimp only); (rw [xg_t (C.k), xb_eq (C.ac hg ha), xg_t (C.k), xnn_e (C.1.2.2.1.1), xb_eq (FX8_put_in C.1.2.2.1.2.1 C.1.2.2.1.2.2 (show 8 * g + a < 64 by omega) (by omega)), xjn_d])
  show (if nI (tac T m g a) = nI v then _ else _) = _
  by_cases c : tac T m g a = v
  · rw [if_pos c, if_pos (by rw [c])]
  · rw [if_neg c, if_neg (by rw [nI_eqP (by omega) (by omega)]; exact c)]
/-- what an act made anew keeps -/
def AcI (h h' : XH) (w : Nat) (S : SD) (T0 : ST) (m : Nat) (p : ST × Int32) : Prop := iw (fun a => a = w + 32 + 8 * m + 2) h h' ∧ CIx h' w S p.1 (whS S T0) ∧ ∀ k, ¬ k = m → whS S p.1 k = whS S T0 k
theorem AcI_s {S : SD} {T0 : ST} {m g a : Nat} {p : ST × Int32} {h' : XH} {e : Nat → Nat → Nat} (I : AcI h h' w S T0 m p) (hm : m < snm S) (hg : g < nlS2 S m) (ha : a < nuS S m) (hv : e g a < nuS S m) : FX1_replaceAction E (w + 32 + 8 * m) (nI g) (nI a) (nI (e g a)) h' = xv (if tac p.1 m g a = e g a then 0 else 1) (yi h' (w + 32 + 8 * m + 2) (8 * g + a) (nI (e g a))) ∧ AcI h (yi h' (w + 32 + 8 * m + 2) (8 * g + a) (nI (e g a))) w S T0 m (stA m e g a p) :=
  ⟨replace_v I.2.1 hm hg ha hv, I.1.yi _ _ _ rfl, CIx_ac I.2.1 hm hg ha hv, fun k hk => (whS_ac S p.1 hk).trans (I.2.2 k hk)⟩
theorem becomeRestful_o {S : SD} {T : ST} {m : Nat} (M : CI h w S T) (hm : m < snm S) : xo (FX1_becomeRestful E (w + 32 + 8 * m) h) (fun v h' => v = (foB m (fun _ a => a) (nuS S m) T (nlS2 S m)).2 ∧ AcI h h' w S T m (foB m (fun _ a => a) (nuS S m) T (nlS2 S m))) := by
  have u8 : nuS S m ≤ 8 := (M.cm hm).wd.1.2.1
  have l8 : nlS2 S m ≤ 8 := (M.cm hm).wd.1.2.2.2
  unfold FX1_becomeRestful
  refine xlp_inv (Po := fun m => xo m _) (fun i s h' => s = ((foB m (fun _ a => a) (nuS S m) T i).2, nI i) ∧ AcI h h' w S T m (foB m (fun _ a => a) (nuS S m) T i)) (nlS2 S m) (by omega) (fun i s h1 ag hi I again => ?_) ⟨rfl, iw.refl _ _, M.x, fun _ _ => rfl⟩
  obtain ⟨rfl, I1⟩ := I
  have C1 := I1.2.1.cm hm
  refine xo_g C1.k (xo_n C1.l (xo_g C1.lk ?_))
  rw [show xi h1 (w + 14 + 3 * sml S m) 3 = nI (nlS2 S m) from C1.ln]
  by_cases e : i = nlS2 S m
  · subst e
    exact xo_t (Int32.le_refl _) (xo_v ⟨rfl, I1⟩)
  · have hlt : i < nlS2 S m := by omega
    refine xo_f (nI_ge hlt (by omega)) ?_
    refine xlp_inv (Po := fun m => xo m _) (fun k s h' => s = ((foA m (fun _ a => a) i (foB m (fun _ a => a) (nuS S m) T i) k).2, nI k) ∧ AcI h h' w S T m (foA m (fun _ a => a) i (foB m (fun _ a => a) (nuS S m) T i) k)) (nuS S m) (by omega) (fun k s h2 ag' hk I again' => ?_) ⟨rfl, I1⟩
    obtain ⟨rfl, I2⟩ := I
    have C2 := I2.2.1.cm hm
    refine xo_g C2.k (xo_n C2.u (xo_g C2.uk ?_))
    rw [show xi h2 (w + 14 + 3 * smu S m) 3 = nI (nuS S m) from C2.un]
    by_cases e : k = nuS S m
    · subst e
      refine xo_t (Int32.le_refl _) ?_
      dsimp only
      rw [nI_s]
      exact again hlt _ _ ⟨rfl, I2⟩
    · have hk2 : k < nuS S m := by omega
      obtain ⟨r1, r2⟩ := AcI_s (E := E) (e := fun _ a => a) I2 hm hlt hk2 hk2
      refine xo_f (nI_ge hk2 (by omega)) (xo_g C2.k (xo_eb r1 (xo_lt ?_)))
      dsimp only
      rw [nI_s]
      exact again' hk2 _ _ ⟨rfl, r2⟩
theorem becomeConjugation_o {S : SD} {T : ST} {m : Nat} (M : CI h w S T) (hm : m < snm S) (hu : nuS S m = nlS2 S m) : xo (FX1_becomeConjugation E (w + 32 + 8 * m) h) (fun v h' => v = (foB m (fun g a => sgt S (smu S m) (sgt S (smu S m) g a) (sgv S (smu S m) g)) (nuS S m) T (nlS2 S m)).2 ∧ AcI h h' w S T m (foB m (fun g a => sgt S (smu S m) (sgt S (smu S m) g a) (sgv S (smu S m) g)) (nuS S m) T (nlS2 S m))) := by
  have u8 : nuS S m ≤ 8 := (M.cm hm).wd.1.2.1
  have l8 : nlS2 S m ≤ 8 := (M.cm hm).wd.1.2.2.2
  have tl := (M.cm hm).2.2.1.2.1.lt
  have vl := (M.cm hm).2.2.1.2.2.lt
  have tl : ∀ a b, a < nuS S m → b < nuS S m → sgt S (smu S m) a b < nuS S m := fun a b ha hb => tl a b ha hb
  have vl : ∀ a, a < nuS S m → sgv S (smu S m) a < nuS S m := fun a ha => vl a ha
  unfold FX1_becomeConjugation
  generalize he : (fun g a => sgt S (smu S m) (sgt S (smu S m) g a) (sgv S (smu S m) g)) = e
  have ev : ∀ g a, g < nuS S m → a < nuS S m → e g a < nuS S m := fun g a hg ha => by
    rw [← he]
    exact tl _ _ (tl _ _ hg ha) (vl _ hg)
  refine xlp_inv (Po := fun m => xo m _) (fun i s h' => s = ((foB m e (nuS S m) T i).2, nI i) ∧ AcI h h' w S T m (foB m e (nuS S m) T i)) (nlS2 S m) (by omega) (fun i s h1 ag hi I again => ?_) ⟨rfl, iw.refl _ _, M.x, fun _ _ => rfl⟩
  obtain ⟨rfl, I1⟩ := I
  have C1 := I1.2.1.cm hm
  refine xo_g C1.k (xo_n C1.l (xo_g C1.lk ?_))
  rw [show xi h1 (w + 14 + 3 * sml S m) 3 = nI (nlS2 S m) from C1.ln]
  by_cases q : i = nlS2 S m
  · subst q
    exact xo_t (Int32.le_refl _) (xo_v ⟨rfl, I1⟩)
  · have hlt : i < nlS2 S m := by omega
    refine xo_f (nI_ge hlt (by omega)) ?_
    refine xlp_inv (Po := fun m => xo m _) (fun k s h' => s = ((foA m e i (foB m e (nuS S m) T i) k).2, nI k) ∧ AcI h h' w S T m (foA m e i (foB m e (nuS S m) T i) k)) (nuS S m) (by omega) (fun k s h2 ag' hk I again' => ?_) ⟨rfl, I1⟩
    obtain ⟨rfl, I2⟩ := I
    have C2 := I2.2.1.cm hm
    refine xo_g C2.k (xo_n C2.u (xo_g C2.uk ?_))
    rw [show xi h2 (w + 14 + 3 * smu S m) 3 = nI (nuS S m) from C2.un]
    by_cases q : k = nuS S m
    · subst q
      refine xo_t (Int32.le_refl _) ?_
      dsimp only
      rw [nI_s]
      exact again hlt _ _ ⟨rfl, I2⟩
    · have hk2 : k < nuS S m := by omega
      obtain ⟨r1, r2⟩ := AcI_s (E := E) (e := e) I2 hm hlt hk2 (ev i k (by omega) hk2)
      have cu : FX2_conjugateBy E (w + 14 + 3 * smu S m) (nI i) (nI k) h2 = xv (nI (e i k)) h2 := by
        rw [← he]
        exact C2.cu (show i < nuS S m by omega) hk2
      refine xo_f (nI_ge hk2 (by omega)) (xo_g C2.k (xo_n C2.u (xo_g C2.uk (xo_eb cu (xo_g C2.k (xo_eb r1 (xo_lt ?_)))))))
      dsimp only
      rw [nI_s]
      exact again' hk2 _ _ ⟨rfl, r2⟩
/-- what the whole act is made into -/
def zac (Z : ZD) (m : Nat) (e : Nat → Nat → Nat) : ST × Int32 := foB m e (nuS (zS Z) m) (T1 (zT Z)) (nlS2 (zS Z) m)
theorem C_rest (x : XI h X w s f Z) (z : WZ Z) (hl : zld Z = true) {m : Nat} (hm : m < snm (zS Z)) : xo (FX8_rest E X (nI m) h) (fun r h' => r = (zac Z m (fun _ a => a)).2 ∧ iw (rXa X) h h' ∧ ∃ w s f, XI h' X w s f (zjd Z m (zac Z m (fun _ a => a)).1)) := by
  unfold FX8_rest
  refine xo_g x.k (xo_eb (FX8_moduleAt_v x hl hm) (xo_g x.k (xo_b (FX8_beginChange_o x z.2.2.1.1) (fun _ h1 q1 => ?_))))
  obtain ⟨i1, f1, x1⟩ := q1
  have M1 := chI x1
  refine xo_g (M1.cm hm).k (xo_b (becomeRestful_o M1 hm) (fun v h2 q2 => ?_))
  obtain ⟨rfl, i2, M2, e2⟩ := q2
  refine xo_w (judge_o (E := E) (m := m) x1 i2 (fun a q => Or.inr q) M2 hm (fun k _ hk => (e2 k hk).symm)) (fun v h' q => ⟨q.1, i1.trans q.2.1 (fun _ q => q) (fun _ q => q), q.2.2⟩)
theorem C_conjugate (x : XI h X w s f Z) (z : WZ Z) (hl : zld Z = true) {m : Nat} (hm : m < snm (zS Z)) (hu : smu (zS Z) m = sml (zS Z) m) : xo (FX8_conjugate E X (nI m) h) (fun r h' => r = (zac Z m (fun g a => sgt (zS Z) (smu (zS Z) m) (sgt (zS Z) (smu (zS Z) m) g a) (sgv (zS Z) (smu (zS Z) m) g))).2 ∧ iw (rXa X) h h' ∧ ∃ w s f, XI h' X w s f (zjd Z m (zac Z m (fun g a => sgt (zS Z) (smu (zS Z) m) (sgt (zS Z) (smu (zS Z) m) g a) (sgv (zS Z) (smu (zS Z) m) g))).1)) := by
  have C := x.ci.cm hm
  have g6 := x.ci.1.1.1.1
  have n0 := x.ci.2.1.1.2.1
  have mu := x.ci.1.1.2.2.1 m hm
  unfold FX8_conjugate
  refine xo_g x.k (xo_eb (FX8_moduleAt_v x hl hm) (xo_g C.k (xo_n C.u (xo_g C.uk (xo_g C.k (xo_n C.l (xo_g C.lk (xo_jn (xo_t ?_ (xo_eb (show FX8_demandFit E 1 h = xv () h from rfl) (xo_g x.k (xo_b (FX8_beginChange_o x z.2.2.1.1) (fun _ h1 q1 => ?_)))))))))))))
  · rw [hu]
  obtain ⟨i1, f1, x1⟩ := q1
  have M1 := chI x1
  refine xo_g (M1.cm hm).k (xo_b (becomeConjugation_o M1 hm (by unfold nuS nlS2; rw [hu])) (fun v h2 q2 => ?_))
  obtain ⟨rfl, i2, M2, e2⟩ := q2
  refine xo_w (judge_o (E := E) (m := m) x1 i2 (fun a q => Or.inr q) M2 hm (fun k _ hk => (e2 k hk).symm)) (fun v h' q => ⟨q.1, i1.trans q.2.1 (fun _ q => q) (fun _ q => q), q.2.2⟩)
end CHD
