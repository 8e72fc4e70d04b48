/-! Changes: the World's rows, the class's. -/
set_option linter.unusedVariables false
section CHL
variable {E : XG} {h h' : XH} {X c : Nat} {gb mb ab : Nat → Nat} {S : SD} {T T' : ST}
theorem mdS_bd {m a v k : Nat} (hk : ¬ k = m) : mdS S (Tbd T m a v) k = mdS S T k := by
  have e : (fun a' => if k = m ∧ a' = a then v else tbd T k a') = tbd T k := funext fun a' => if_neg (fun q => hk q.1)
  show (_, _, _, _, _, _, (fun a' => if k = m ∧ a' = a then v else tbd T k a'), _) = mdS S T k
  rw [e]
  rfl
theorem mdS_ac {m g a v k : Nat} (hk : ¬ k = m) : mdS S (Tac T m g a v) k = mdS S T k := by
  have e : (fun g' a' => if k = m ∧ g' = g ∧ a' = a then v else tac T k g' a') = tac T k := funext fun g' => funext fun a' => if_neg (fun q => hk q.1)
  show (_, _, _, _, _, _, _, (fun g' a' => if k = m ∧ g' = g ∧ a' = a then v else tac T k g' a')) = mdS S T k
  rw [e]
  rfl
theorem WT_bd (w : WT S T) {m a v : Nat} (hv : v < nlS2 S m) : WT S (Tbd T m a v) := by
  refine ⟨fun m' a' h1 h2 => ?_, w.2.1, w.2.2.1, w.2.2.2⟩
  show (if m' = m ∧ a' = a then v else tbd T m' a') < nlS2 S m'
  by_cases z : m' = m ∧ a' = a
  · rw [if_pos z, z.1]; exact hv
  · rw [if_neg z]; exact w.1 m' a' h1 h2
theorem WT_ac (w : WT S T) {m g a v : Nat} (hv : v < nuS S m) : WT S (Tac T m g a v) := by
  refine ⟨w.1, fun m' g' a' h1 h2 h3 => ?_, w.2.2.1, w.2.2.2⟩
  show (if m' = m ∧ g' = g ∧ a' = a then v else tac T m' g' a') < nuS S m'
  by_cases z : m' = m ∧ g' = g ∧ a' = a
  · rw [if_pos z, z.1]; exact hv
  · rw [if_neg z]; exact w.2.1 m' g' a' h1 h2 h3
theorem WT_tp (w : WT S T) {a x v : Nat} (hv : v < nuS S (sao S a)) : WT S (Ttp T a x v) := by
  refine ⟨w.1, w.2.1, fun a' x' h1 h2 => ?_, w.2.2.2⟩
  show (if a' = a ∧ x' = x then v else ttp T a' x') < nuS S (sao S a')
  by_cases z : a' = a ∧ x' = x
  · rw [if_pos z, z.1]; exact hv
  · rw [if_neg z]; exact w.2.2.1 a' x' h1 h2
theorem WT_bt (w : WT S T) {a x v : Nat} (hv : v < nlS2 S (sao S a)) : WT S (Tbt T a x v) := by
  refine ⟨w.1, w.2.1, w.2.2.1, fun a' x' h1 h2 => ?_⟩
  show (if a' = a ∧ x' = x then v else tbt T a' x') < nlS2 S (sao S a')
  by_cases z : a' = a ∧ x' = x
  · rw [if_pos z, z.1]; exact hv
  · rw [if_neg z]; exact w.2.2.2 a' x' h1 h2
/-- one int written, behind the World's own cells and outside the tables -/
theorem lW_wr {w0 k : Nat} {x : Int32} (w : lW h c gb mb ab S T) (hc : c + 6 < w0) (ht : ∀ g, g < sng S → w0 < gb g ∨ gb g + sgn S g < w0) (wt : WT S T') (hcc : ∀ j, tcc T' j = tcc T j) (hm : ∀ m, m < snm S → ¬ mb m = w0 ∧ lM (yi h w0 k x) (mb m) (gb (smu S m)) (gb (sml S m)) (mdS S T' m)) (ha : ∀ a, a < sna S → lA (yi h w0 k x) (ab a) (saf S a) (sao S a) (nuS S (saf S a)) (nlS2 S (saf S a)) (ttp T' a) (tbt T' a)) : lW (yi h w0 k x) c gb mb ab S T' := by
  have sm : ∀ a, ¬ a = w0 → smC a h (yi h w0 k x) := fun a q => smC_yi q
  refine ⟨lC_sm w.1 (fun a a1 a2 => sm a (by omega)), fun g hg => ⟨(w.2.1 g hg).1, lV_sm (w.tb hg) (fun a a1 a2 => sm a (by have := ht g hg; omega))⟩, fun m hm' => ⟨(w.2.2.1 m hm').1, ⟨((sm _ (hm m hm').1).2.1 _).trans (w.hi hm'), ((sm _ (hm m hm').1).2.1 _).trans (w.lo hm')⟩, (hm m hm').2⟩, fun a ha' => ⟨(w.2.2.2.1 a ha').1, ha a ha'⟩, fun j hj => ?_, w.ws, wt⟩
  rw [xi_yi2 _ _ (Or.inl (by omega)), hcc]
  exact w.ac hj
theorem lA_yi {A f o nt nb w0 k : Nat} {x : Int32} {tp bt : Nat → Nat} (q : lA h A f o nt nb tp bt) (d : w0 < A ∨ A + 2 < w0) : lA (yi h w0 k x) A f o nt nb tp bt := lA_sm q (smC_yi (by omega)) (smC_yi (by omega)) (smC_yi (by omega))
theorem lM_yi {M U L w0 k : Nat} {x : Int32} {d : MD} (m : lM h M U L d) (n : ¬ mReg M U L d w0) : lM (yi h w0 k x) M U L d := lM_sm m (fun a q => smC_yi (fun z => n (by rw [← z]; exact q)))
theorem lW_bd (w : lW h c gb mb ab S T) (o : lO c gb mb ab S X) {m a v : Nat} (hm : m < snm S) (ha : a < nuS S m) (hv : v < nlS2 S m) : lW (yi h (mb m + 1) a (nI v)) c gb mb ab S (Tbd T m a v) := by
  have om := o.2.1 m hm
  have W := w.ws
  have wt : WT S (Tbd T m a v) := WT_bd w.wt hv
  refine lW_wr w (by omega) (fun g hg => Or.inr (by have := (o.1 g hg).2.2.1 m hm; omega)) wt (fun _ => rfl) (fun m' hm' => ?_) (fun a' ha' => lA_yi (w.ar ha') (by have := om.2.2.2 a' ha'; omega))
  have M := w.md hm'
  have r := W.2.2.1 m' hm'
  have t1 := (o.1 _ r.1).2.2.1 m hm
  have t2 := (o.1 _ r.2).2.2.1 m hm
  by_cases e : m' = m
  · subst e
    refine ⟨by omega, ⟨⟨M.k, ⟨M.r2, M.r3⟩, M.r4, M.r5⟩, ⟨lV_sm M.u (fun a a1 a2 => smC_yi (by have a3 : a ≤ gb (smu S m') + sgn S (smu S m') := a2; omega)), lV_sm M.l (fun a a1 a2 => smC_yi (by have a3 : a ≤ gb (sml S m') + sgn S (sml S m') := a2; omega))⟩, ⟨⟨⟨M.kb, M.nb⟩, fun a' ha' => ?_⟩, lV_sm M.a (fun a a1 a2 => smC_yi (by omega))⟩, W.wd wt hm', W.gd hm'⟩⟩
    show xi (yi h (mb m' + 1) a (nI v)) (mb m' + 1) a' = nI (if m' = m' ∧ a' = a then v else tbd T m' a')
    by_cases ea : a' = a
    · rw [ea, xi_yi1, if_pos ⟨rfl, rfl⟩]
    · rw [xi_yi2 _ _ (Or.inr ea), if_neg (fun z => ea z.2)]
      exact M.2.2.1.1.2 a' ha'
  · have om' := o.2.1 m' hm'
    have ord : mb m' + 2 + nlS2 S m' < mb m ∨ mb m + 2 + nlS2 S m < mb m' := by
      rcases Nat.lt_or_gt_of_ne e with z | z
      · exact Or.inl (om'.2.2.1 m z hm)
      · exact Or.inr (om.2.2.1 m' z hm')
    rw [mdS_bd e]
    refine ⟨by omega, lM_yi M (fun z => ?_)⟩
    have e1 : dnu (mdS S T m') = sgn S (smu S m') := rfl
    have e2 : dnl (mdS S T m') = sgn S (sml S m') := rfl
    have e3 : nlS2 S m' = sgn S (sml S m') := rfl
    unfold mReg at z
    rw [e1, e2] at z
    rw [e3] at ord
    omega
theorem lW_ac (w : lW h c gb mb ab S T) (o : lO c gb mb ab S X) {m g a v : Nat} (hm : m < snm S) (hg : g < nlS2 S m) (ha : a < nuS S m) (hv : v < nuS S m) : lW (yi h (mb m + 2 + 1 + g) a (nI v)) c gb mb ab S (Tac T m g a v) := by
  have om := o.2.1 m hm
  have W := w.ws
  have wt : WT S (Tac T m g a v) := WT_ac w.wt hv
  refine lW_wr w (by omega) (fun g' hg' => Or.inr (by have := (o.1 g' hg').2.2.1 m hm; omega)) wt (fun _ => rfl) (fun m' hm' => ?_) (fun a' ha' => lA_yi (w.ar ha') (by have := om.2.2.2 a' ha'; omega))
  have M := w.md hm'
  have r := W.2.2.1 m' hm'
  have t1 := (o.1 _ r.1).2.2.1 m hm
  have t2 := (o.1 _ r.2).2.2.1 m hm
  by_cases e : m' = m
  · subst e
    refine ⟨by omega, ⟨⟨M.k, ⟨M.r2, M.r3⟩, M.r4, M.r5⟩, ⟨lV_sm M.u (fun a a1 a2 => smC_yi (by have a3 : a ≤ gb (smu S m') + sgn S (smu S m') := a2; omega)), lV_sm M.l (fun a a1 a2 => smC_yi (by have a3 : a ≤ gb (sml S m') + sgn S (sml S m') := a2; omega))⟩, ⟨⟨⟨M.kb, M.nb⟩, fun a' ha' => ?_⟩, ⟨M.a.1.1, fun a ha => M.a.1.2 a ha⟩, fun g' a' hg' ha' => ?_⟩, W.wd wt hm', W.gd hm'⟩⟩
    · rw [xi_yi2 _ _ (Or.inl (by omega))]
      exact M.2.2.1.1.2 a' ha'
    · show xi (yi h (mb m' + 2 + 1 + g) a (nI v)) (mb m' + 2 + 1 + g') a' = nI (if m' = m' ∧ g' = g ∧ a' = a then v else tac T m' g' a')
      by_cases ea : g' = g ∧ a' = a
      · rw [ea.1, ea.2, xi_yi1, if_pos ⟨rfl, rfl, rfl⟩]
      · rw [xi_yi2 _ _ (by omega), if_neg (fun z => ea z.2)]
        exact M.a.2 g' a' hg' ha'
  · have om' := o.2.1 m' hm'
    have ord : mb m' + 2 + nlS2 S m' < mb m ∨ mb m + 2 + nlS2 S m < mb m' := by
      rcases Nat.lt_or_gt_of_ne e with z | z
      · exact Or.inl (om'.2.2.1 m z hm)
      · exact Or.inr (om.2.2.1 m' z hm')
    rw [mdS_ac e]
    refine ⟨by omega, lM_yi M (fun z => ?_)⟩
    have e1 : dnu (mdS S T m') = sgn S (smu S m') := rfl
    have e2 : dnl (mdS S T m') = sgn S (sml S m') := rfl
    have e3 : nlS2 S m' = sgn S (sml S m') := rfl
    unfold mReg at z
    rw [e1, e2] at z
    rw [e3] at ord
    omega
theorem lM_out (w : lW h c gb mb ab S T) (o : lO c gb mb ab S X) {a w0 k : Nat} {x : Int32} (ha : a < sna S) (hw : ab a < w0 ∧ w0 ≤ ab a + 2) : ∀ m, m < snm S → ¬ mb m = w0 ∧ lM (yi h w0 k x) (mb m) (gb (smu S m)) (gb (sml S m)) (mdS S T m) := fun m hm => by
  have om := (o.2.1 m hm).2.2.2 a ha
  have r := w.ws.2.2.1 m hm
  have t1 := (o.1 _ r.1).2.2.2 a ha
  have t2 := (o.1 _ r.2).2.2.2 a ha
  refine ⟨by omega, lM_yi (w.md hm) (fun z => ?_)⟩
  have e1 : dnu (mdS S T m) = sgn S (smu S m) := rfl
  have e2 : dnl (mdS S T m) = sgn S (sml S m) := rfl
  have e3 : nlS2 S m = sgn S (sml S m) := rfl
  unfold mReg at z
  rw [e1, e2] at z
  rw [e3] at om
  omega
theorem lW_tp (w : lW h c gb mb ab S T) (o : lO c gb mb ab S X) {a x v : Nat} (ha : a < sna S) (hx : x < nuS S (saf S a)) (hv : v < nuS S (sao S a)) : lW (yi h (ab a + 1) x (nI v)) c gb mb ab S (Ttp T a x v) := by
  have oa := o.2.2.1 a ha
  refine lW_wr w (by omega) (fun g hg => Or.inr (by have := (o.1 g hg).2.2.2 a ha; omega)) (WT_tp w.wt hv) (fun _ => rfl) (lM_out w o ha (by omega)) (fun a' ha' => ?_)
  by_cases e : a' = a
  · subst e
    have A := w.ar ha'
    refine ⟨⟨A.1.1, ⟨(xi_yi2 _ _ (Or.inl (by omega))).trans A.1.2.1.1, (xi_yi2 _ _ (Or.inl (by omega))).trans A.1.2.1.2⟩, A.1.2.2⟩, ⟨A.2.1.1, fun y hy => ?_⟩, A.2.2.1, fun y hy => (xi_yi2 _ _ (Or.inl (by omega))).trans (A.2.2.2 y hy)⟩
    show xi (yi h (ab a' + 1) x (nI v)) (ab a' + 1) y = nI (if a' = a' ∧ y = x then v else ttp T a' y)
    by_cases ey : y = x
    · rw [ey, xi_yi1, if_pos ⟨rfl, rfl⟩]
    · rw [xi_yi2 _ _ (Or.inr ey), if_neg (fun z => ey z.2)]
      exact A.2.1.2 y hy
  · have e2 : ttp (Ttp T a x v) a' = ttp T a' := funext fun x' => if_neg (fun q => e q.1)
    rw [e2]
    have oa' := o.2.2.1 a' ha'
    refine lA_yi (w.ar ha') ?_
    rcases Nat.lt_or_gt_of_ne e with z | z
    · have := oa'.2.2 a z ha; omega
    · have := oa.2.2 a' z ha'; omega
theorem lW_bt (w : lW h c gb mb ab S T) (o : lO c gb mb ab S X) {a x v : Nat} (ha : a < sna S) (hx : x < nlS2 S (saf S a)) (hv : v < nlS2 S (sao S a)) : lW (yi h (ab a + 2) x (nI v)) c gb mb ab S (Tbt T a x v) := by
  have oa := o.2.2.1 a ha
  refine lW_wr w (by omega) (fun g hg => Or.inr (by have := (o.1 g hg).2.2.2 a ha; omega)) (WT_bt w.wt hv) (fun _ => rfl) (lM_out w o ha (by omega)) (fun a' ha' => ?_)
  by_cases e : a' = a
  · subst e
    have A := w.ar ha'
    refine ⟨⟨A.1.1, ⟨(xi_yi2 _ _ (Or.inl (by omega))).trans A.1.2.1.1, (xi_yi2 _ _ (Or.inl (by omega))).trans A.1.2.1.2⟩, A.1.2.2⟩, ⟨A.2.1.1, fun y hy => (xi_yi2 _ _ (Or.inl (by omega))).trans (A.2.1.2 y hy)⟩, A.2.2.1, fun y hy => ?_⟩
    show xi (yi h (ab a' + 2) x (nI v)) (ab a' + 2) y = nI (if a' = a' ∧ y = x then v else tbt T a' y)
    by_cases ey : y = x
    · rw [ey, xi_yi1, if_pos ⟨rfl, rfl⟩]
    · rw [xi_yi2 _ _ (Or.inr ey), if_neg (fun z => ey z.2)]
      exact A.2.2.2 y hy
  · have e2 : tbt (Tbt T a x v) a' = tbt T a' := funext fun x' => if_neg (fun q => e q.1)
    rw [e2]
    have oa' := o.2.2.1 a' ha'
    refine lA_yi (w.ar ha') ?_
    rcases Nat.lt_or_gt_of_ne e with z | z
    · have := oa'.2.2 a z ha; omega
    · have := oa.2.2 a' z ha'; omega
/-- an account -/
theorem lW_cc (w : lW h c gb mb ab S T) (o : lO c gb mb ab S X) {k : Nat} (hk : k < 3) (v : Int32) : lW (yi h (c + 6) k v) c gb mb ab S (Tcc T (fun j => if j = k then v else tcc T j)) := by
  have sm : ∀ a, ¬ a = c + 6 → smC a h (yi h (c + 6) k v) := fun a q => smC_yi q
  obtain ⟨⟨⟨q1, q2, q6, q7, q8⟩, q9⟩, p1, p2, p3, p4, p5, p6⟩ := w
  refine ⟨⟨⟨q1, q2, (xi_yi2 _ _ (Or.inl (by omega))).trans q6, (xi_yi2 _ _ (Or.inl (by omega))).trans q7, (xi_yi2 _ _ (Or.inl (by omega))).trans q8⟩, q9⟩, fun g hg => ⟨(p1 g hg).1, lV_sm (p1 g hg).2 (fun a a1 a2 => sm a (by have := o.1 g hg; omega))⟩, fun m hm => ?_, fun a ha => ⟨(p3 a ha).1, lA_yi (p3 a ha).2 (by have := o.2.2.1 a ha; omega)⟩, fun j hj => ?_, p5, p6⟩
  · have om := o.2.1 m hm
    refine ⟨(p2 m hm).1, ⟨(xi_yi2 _ _ (Or.inl (by omega))).trans (p2 m hm).2.1.1, (xi_yi2 _ _ (Or.inl (by omega))).trans (p2 m hm).2.1.2⟩, lM_yi (p2 m hm).2.2 (fun z => ?_)⟩
    have r := p5.2.2.1 m hm
    have t1 := o.1 _ r.1
    have t2 := o.1 _ r.2
    unfold mReg at z
    omega
  · show _ = if j = k then v else tcc T j
    by_cases e : j = k
    · rw [e, xi_yi1, if_pos rfl]
    · rw [xi_yi2 _ _ (Or.inr e), if_neg e]; exact p4 j hj
/-- the class's changes -/
theorem XQ_of {w s f : Nat} {Z' : ZD} (x : XI h' X w s f Z') (z : WZ Z') (hl : zld Z' = true) (e1 : zS Z' = S) (e2 : zT Z' = T) (t : X + 223 ≤ xt h') : XQ h' X S T := ⟨w, s, f, Z', x, z, hl, e1, e2, t⟩
theorem zjd_S (Z : ZD) (m : Nat) (T : ST) : zS (zjd Z m T) = zS Z := zch_S Z
theorem zjd_ld (Z : ZD) (m : Nat) (T : ST) : zld (zjd Z m T) = zld Z := zch_ld Z
theorem qc_setBoundary (q : XQ h X S T) {m a v : Nat} (hm : m < snm S) (ha : a < nuS S m) (hv : v < nlS2 S m) : xo (FX8_setBoundary E X (nI m) (nI a) (nI v) h) (fun r h' => r = nI (tbd T m a) ∧ iw (rXa X) h h' ∧ XQ h' X S (Tjd (Tbd (T1 T) m a v) (whS S T m) (whS S (Tbd (T1 T) m a v) m))) := by
  obtain ⟨w9, s9, f9, Z, x, z, hl, e1, e2, t⟩ := q
  subst e1; subst e2
  refine xo_w (C_setBoundary x z hl hm ha hv) (fun r h' y => ?_)
  obtain ⟨y1, y2, w, s, f, y3⟩ := y
  exact ⟨y1, y2, XQ_of y3 (zsT_wz (zch_wz z hl x.ci.1.2) _) ((zjd_ld _ _ _).trans hl) (zjd_S _ _ _) rfl (by rw [y2.t]; exact t)⟩
theorem qc_setAct (q : XQ h X S T) {m g a v : Nat} (hm : m < snm S) (hg : g < nlS2 S m) (ha : a < nuS S m) (hv : v < nuS S m) : xo (FX8_setAct E X (nI m) (nI g) (nI a) (nI v) h) (fun r h' => r = nI (tac T m g a) ∧ iw (rXa X) h h' ∧ XQ h' X S (Tjd (Tac (T1 T) m g a v) (whS S T m) (whS S (Tac (T1 T) m g a v) m))) := by
  obtain ⟨w9, s9, f9, Z, x, z, hl, e1, e2, t⟩ := q
  subst e1; subst e2
  refine xo_w (C_setAct x z hl hm hg ha hv) (fun r h' y => ?_)
  obtain ⟨y1, y2, w, s, f, y3⟩ := y
  exact ⟨y1, y2, XQ_of y3 (zsT_wz (zch_wz z hl x.ci.1.2) _) ((zjd_ld _ _ _).trans hl) (zjd_S _ _ _) rfl (by rw [y2.t]; exact t)⟩
theorem qc_setTop (q : XQ h X S T) {a b v : Nat} (ha : a < sna S) (hb : b < nuS S (saf S a)) (hv : v < nuS S (sao S a)) : xo (FX8_setTop E X (nI a) (nI b) (nI v) h) (fun r h' => r = nI (ttp T a b) ∧ iw (rXa X) h h' ∧ XQ h' X S (Ttp (T1 T) a b v)) := by
  obtain ⟨w9, s9, f9, Z, x, z, hl, e1, e2, t⟩ := q
  subst e1; subst e2
  refine xo_w (C_setTop x z hl ha hb hv) (fun r h' y => ?_)
  obtain ⟨y1, y2, w, s, f, y3⟩ := y
  exact ⟨y1, y2, XQ_of y3 (zsT_wz (zch_wz z hl x.ci.1.2) _) ((zch_ld _).trans hl) (zch_S _) rfl (by rw [y2.t]; exact t)⟩
theorem qc_setBottom (q : XQ h X S T) {a b v : Nat} (ha : a < sna S) (hb : b < nlS2 S (saf S a)) (hv : v < nlS2 S (sao S a)) : xo (FX8_setBottom E X (nI a) (nI b) (nI v) h) (fun r h' => r = nI (tbt T a b) ∧ iw (rXa X) h h' ∧ XQ h' X S (Tbt (T1 T) a b v)) := by
  obtain ⟨w9, s9, f9, Z, x, z, hl, e1, e2, t⟩ := q
  subst e1; subst e2
  refine xo_w (C_setBottom x z hl ha hb hv) (fun r h' y => ?_)
  obtain ⟨y1, y2, w, s, f, y3⟩ := y
  exact ⟨y1, y2, XQ_of y3 (zsT_wz (zch_wz z hl x.ci.1.2) _) ((zch_ld _).trans hl) (zch_S _) rfl (by rw [y2.t]; exact t)⟩
theorem qc_rest (q : XQ h X S T) {m : Nat} (hm : m < snm S) : xo (FX8_rest E X (nI m) h) (fun r h' => r = (foB m (fun _ a => a) (nuS S m) (T1 T) (nlS2 S m)).2 ∧ iw (rXa X) h h' ∧ XQ h' X S (Tjd (foB m (fun _ a => a) (nuS S m) (T1 T) (nlS2 S m)).1 (whS S T m) (whS S (foB m (fun _ a => a) (nuS S m) (T1 T) (nlS2 S m)).1 m))) := by
  obtain ⟨w9, s9, f9, Z, x, z, hl, e1, e2, t⟩ := q
  subst e1; subst e2
  refine xo_w (C_rest x z hl hm) (fun r h' y => ?_)
  obtain ⟨y1, y2, w, s, f, y3⟩ := y
  exact ⟨y1, y2, XQ_of y3 (zsT_wz (zch_wz z hl x.ci.1.2) _) ((zjd_ld _ _ _).trans hl) (zjd_S _ _ _) rfl (by rw [y2.t]; exact t)⟩
/-- what conjugation makes -/
def cjE (S : SD) (m : Nat) (g a : Nat) : Nat := sgt S (smu S m) (sgt S (smu S m) g a) (sgv S (smu S m) g)
theorem qc_conjugate (q : XQ h X S T) {m : Nat} (hm : m < snm S) (hu : smu S m = sml S m) : xo (FX8_conjugate E X (nI m) h) (fun r h' => r = (foB m (cjE S m) (nuS S m) (T1 T) (nlS2 S m)).2 ∧ iw (rXa X) h h' ∧ XQ h' X S (Tjd (foB m (cjE S m) (nuS S m) (T1 T) (nlS2 S m)).1 (whS S T m) (whS S (foB m (cjE S m) (nuS S m) (T1 T) (nlS2 S m)).1 m))) := by
  obtain ⟨w9, s9, f9, Z, x, z, hl, e1, e2, t⟩ := q
  subst e1; subst e2
  refine xo_w (C_conjugate x z hl hm hu) (fun r h' y => ?_)
  obtain ⟨y1, y2, w, s, f, y3⟩ := y
  exact ⟨y1, y2, XQ_of y3 (zsT_wz (zch_wz z hl x.ci.1.2) _) ((zjd_ld _ _ _).trans hl) (zjd_S _ _ _) rfl (by rw [y2.t]; exact t)⟩
end CHL
