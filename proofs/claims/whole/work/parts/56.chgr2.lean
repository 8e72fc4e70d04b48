/-! Changes, the reference: each of them. -/
set_option linter.unusedVariables false
theorem xo_jsel {α : Type} {c : Prop} [Decidable c] {k : Int32 → XH → XP α} {x y : Int32} {h : XH} {Q : α → XH → Prop} (hm : xo (k (if c then x else y) h) Q) : xo (xjn k fun j => if c then j x h else j y h) Q := by
  show xo (if c then k x h else k y h) Q
  by_cases q : c
  · rw [if_pos q] at hm ⊢; exact hm
  · rw [if_neg q] at hm ⊢; exact hm
theorem flag_i {E : XG} {h : XH} {c : Prop} [Decidable c] : FX9_flag E (if c then 0 else 1) h = xv (if c then 0 else 1) h := by
  by_cases q : c
  · rw [if_pos q]; rfl
  · rw [if_neg q]; rfl
theorem flag_j {E : XG} {h : XH} {c : Prop} [Decidable c] : FX9_flag E (if c then 1 else 0) h = xv (if c then 1 else 0) h := by
  by_cases q : c
  · rw [if_pos q]; rfl
  · rw [if_neg q]; rfl
theorem i48 (m g a : Nat) : (48 : Int32) + 64 * nI m + 8 * nI g + nI a = nI (48 + 64 * m + 8 * g + a) := by rw [show (48 : Int32) = nI 48 from rfl, show (64 : Int32) = nI 64 from rfl, li8, nI_m, nI_m, nI_a, nI_a, nI_a]
theorem i432 (a b : Nat) : (432 : Int32) + 8 * nI a + nI b = nI (432 + 8 * a + b) := by rw [show (432 : Int32) = nI 432 from rfl, li8, nI_m, nI_a, nI_a]
theorem i496 (a b : Nat) : (496 : Int32) + 8 * nI a + nI b = nI (496 + 8 * a + b) := by rw [show (496 : Int32) = nI 496 from rfl, li8, nI_m, nI_a, nI_a]
theorem zch_TT (Z : ZD) : zsT (zch Z) (T1 (zT Z)) = zch Z := by unfold zch; split <;> rfl
section REG
variable {E : XG} {h h' : XH} {Y : Nat} {Z : ZD}
theorem rI (y : YI h Y (zch Z)) : MI h Y (zS Z) (T1 (zT Z)) := by
  have := y.1.1
  rw [zch_S, zch_T] at this
  exact this
theorem FX9_touches_o (y : YI h Y Z) (z8 : zun Z ≤ 8) {m : Nat} (hm : m < snm (zS Z)) : xo (FX9_touches E Y (nI m) h) (fun _ h' => iw (rYa Y) h h' ∧ xi h' Y 0 = xi h Y 0 ∧ YI h' Y (zch Z) ∧ xi h' Y 44 = if whS (zS Z) (zT Z) m = 0 then 1 else 0) := by
  have w5 := whS_le (zS Z) (zT Z) m
  unfold FX9_touches
  refine xo_g y.l.1 (xo_b (FX9_begins_o y z8) (fun _ h1 q1 => ?_))
  obtain ⟨i1, e1, y1⟩ := q1
  have M1 := rI y1
  have ew : FX9_whyOf E Y (nI m) h1 = xv (nI (whS (zS Z) (zT Z) m)) h1 := FX9_whyOf_v (M1.ym hm) (M1.gd hm)
  refine xo_g y1.l.1 (xo_eb ew (xo_jsel (xo_g ⟨y1.l.1, ?_⟩ (xo_lt (xo_v ⟨i1.yi _ _ _ (by unfold rYa; omega), ?_, YI_fld y1 44 _ (by omega), ?_⟩)))))
  · split
    · exact Or.inr rfl
    · exact Or.inl rfl
  · rw [xi_yi2 _ _ (Or.inr (by decide))]; exact e1
  · rw [xi_yi1]
    by_cases c : whS (zS Z) (zT Z) m = 0
    · rw [if_pos c, if_pos (by rw [c]; rfl)]
    · rw [if_neg c, if_neg (by rw [nI_eq0 (by omega)]; exact c)]
/-- what has been judged -/
theorem FX9_ends_o {Z1 : ZD} (y : YI h Y Z1) {m a : Nat} (hm : m < snm (zS Z1)) (e44 : xi h Y 44 = if a = 0 then 1 else 0) : xo (FX9_ends E Y (nI m) h) (fun _ h' => iw (fun b => b = Y + 8) h h' ∧ YI h' Y (zsT Z1 (Tjd (zT Z1) a (whS (zS Z1) (zT Z1) m)))) := by
  have w5 := whS_le (zS Z1) (zT Z1) m
  have yl := y.l
  have ws := y.ws
  have wt := y.1.1.1.2
  have t := y.1.1.2.2.2
  have g561 := yl.g8 (show 561 < 563 by omega)
  have g562 := yl.g8 (show 562 < 563 by omega)
  have c3 : ∀ x, x < 3 → xi h (Y + 8) (560 + x) = tcc (zT Z1) x := fun x hx => by
    have := t.2.2.2.2 x hx
    rw [Nat.zero_add] at this
    exact this
  have ew := y.why (E := E) hm
  generalize whS (zS Z1) (zT Z1) m = b at ew w5 ⊢
  unfold FX9_ends
  refine xo_g yl.1 (xo_eb ew (xo_jsel (xo_g yl.1 (xo_n yl.r8 (xo_g g561 (xo_g yl.1 ?_))))))
  have e3 : (if nI b = 0 then (1 : Int32) else 0) = if b = 0 then 1 else 0 := by
    by_cases c : b = 0
    · rw [if_pos c, if_pos (by rw [c]; rfl)]
    · rw [if_neg c, if_neg (by rw [nI_eq0 (by omega)]; exact c)]
  have fin : ∀ x y2 : Int32, (x = if a = 0 ∧ ¬ b = 0 then 1 else 0) → (y2 = if ¬ a = 0 ∧ b = 0 then 1 else 0) → YI (yi (yi h (Y + 8) 561 (xi h (Y + 8) 561 + x)) (Y + 8) 562 (xi h (Y + 8) 562 + y2)) Y (zsT Z1 (Tjd (zT Z1) a b)) := fun x y2 hx hy => by
    have i2 : iw (fun b => b = Y + 8) h (yi (yi h (Y + 8) 561 (xi h (Y + 8) 561 + x)) (Y + 8) 562 (xi h (Y + 8) 562 + y2)) := (iw_yi (A := fun b => b = Y + 8) _ _ _ _ rfl).yi _ _ _ rfl
    refine YI_T y i2 wt (TR_cc ws t _ (fun j hj => by rw [xi_yi2 _ _ (Or.inr (by omega)), xi_yi2 _ _ (Or.inr (by omega))]) (fun k hk => ?_))
    have k3 : k = 0 ∨ k = 1 ∨ k = 2 := by omega
    have t1 := c3 1 (by omega)
    have t2 := c3 2 (by omega)
    rcases k3 with rfl | rfl | rfl
    · rw [xi_yi2 _ _ (Or.inr (by omega)), xi_yi2 _ _ (Or.inr (by omega)), if_neg (fun q => absurd q.1 (by omega)), if_neg (fun q => absurd q.1 (by omega))]
      exact c3 0 (by omega)
    · rw [xi_yi2 _ _ (Or.inr (by omega)), xi_yi1, hx, t1]
      by_cases q : a = 0 ∧ ¬ b = 0
      · rw [if_pos q, if_pos ⟨rfl, q.1, q.2⟩]
      · rw [if_neg q, if_neg (fun z => q z.2), if_neg (fun z => absurd z.1 (by omega)), Int32.add_zero]
    · rw [xi_yi1, hy, t2]
      by_cases q : ¬ a = 0 ∧ b = 0
      · rw [if_pos q, if_neg (fun z => absurd z.1 (by omega)), if_pos ⟨rfl, q.1, q.2⟩]
      · rw [if_neg q, if_neg (fun z => absurd z.1 (by omega)), if_neg (fun z => q z.2), Int32.add_zero]
  have e44' : ∀ x, xi (yi h (Y + 8) (561 : Int32).toNatClampNeg x) Y 44 = if a = 0 then 1 else 0 := fun x => by rw [xi_yi2 _ _ (Or.inl (by omega))]; exact e44
  have e562 : ∀ x, xi (yi h (Y + 8) 561 x) (Y + 8) 562 = xi h (Y + 8) 562 := fun x => xi_yi2 _ _ (Or.inr (by omega))
  have fin2 : ∀ x y2 : Int32, (x = if a = 0 ∧ ¬ b = 0 then 1 else 0) → (y2 = if ¬ a = 0 ∧ b = 0 then 1 else 0) → YI (yi (yi h (Y + 8) (561 : Int32).toNatClampNeg (xi h (Y + 8) (561 : Int32).toNatClampNeg + x)) (Y + 8) (562 : Int32).toNatClampNeg (xi (yi h (Y + 8) (561 : Int32).toNatClampNeg (xi h (Y + 8) (561 : Int32).toNatClampNeg + x)) (Y + 8) (562 : Int32).toNatClampNeg + y2)) Y (zsT Z1 (Tjd (zT Z1) a b)) := fun x y2 hx hy => by
    rw [show (561 : Int32).toNatClampNeg = 561 from rfl, show (562 : Int32).toNatClampNeg = 562 from rfl, e562]
    exact fin x y2 hx hy
  have iF : ∀ (k1 k2 : Nat) (x y2 : Int32), iw (fun b => b = Y + 8) h (yi (yi h (Y + 8) k1 x) (Y + 8) k2 y2) := fun k1 k2 x y2 => (iw_yi (A := fun b => b = Y + 8) _ _ _ _ rfl).yi _ _ _ rfl
  have tail : ∀ x : Int32, (x = if a = 0 ∧ ¬ b = 0 then 1 else 0) → xo (xb (FX9_flag E x h) fun v8 h9 => xg (xk h9 (Y + 8) = 12 ∧ xin 561 (xn h9 (Y + 8))) <| xlt (yi h9 (Y + 8) (561 : Int32).toNatClampNeg ((xi h (Y + 8) (561 : Int32).toNatClampNeg) + v8)) fun h10 => xg (xk h10 Y = 10) <| xnn (xr h10 Y 12) fun w11 => xg (xk h10 w11 = 12 ∧ xin 562 (xn h10 w11)) <| xg (xk h10 Y = 10) <| xjn (fun (v12 : Int32) (h13 : XH) => xb (FX9_flag E v12 h13) fun v14 h15 => xg (xk h15 w11 = 12 ∧ xin 562 (xn h15 w11)) <| xlt (yi h15 w11 (562 : Int32).toNatClampNeg ((xi h10 w11 (562 : Int32).toNatClampNeg) + v14)) fun h16 => xv () h16) fun (j69 : Int32 → XH → XP Unit) => xjn (fun  (h17 : XH) => j69 0 h17) fun (j68 : XH → XP Unit) => if ((xi h10 Y 44) : Int32) = 0 then (if ((if nI b = 0 then (1 : Int32) else 0) : Int32) = 0 then (j68 h10) else (j69 1 h10)) else (j68 h10)) (fun _ h' => iw (fun b => b = Y + 8) h h' ∧ YI h' Y (zsT Z1 (Tjd (zT Z1) a b))) := fun x hx => by
    have y1 : ∀ z : Int32, YL (yi h (Y + 8) 561 z) Y := fun z => yl
    refine xo_eb (v := x) (h := h) ?_ (xo_g g561 (xo_lt (xo_g (y1 _).1 (xo_n (y1 _).r8 (xo_g ((y1 _).g8 (show 562 < 563 by omega)) (xo_g (y1 _).1 (xo_jn (xo_jn ?_))))))))
    · rw [hx]; exact flag_j
    by_cases ca : a = 0
    · refine xo_f (by rw [e44', if_pos ca]; decide) (xo_eb (show FX9_flag E 0 _ = xv 0 _ from rfl) (xo_g ((y1 _).g8 (show 562 < 563 by omega)) (xo_lt (xo_v ⟨iF _ _ _ _, fin2 x 0 hx (by rw [if_neg (fun z => z.1 ca)])⟩))))
    · refine xo_t (by rw [e44', if_neg ca]) ?_
      by_cases cb : b = 0
      · exact xo_f (by rw [e3, if_pos cb]; decide) (xo_eb (show FX9_flag E 1 _ = xv 1 _ from rfl) (xo_g ((y1 _).g8 (show 562 < 563 by omega)) (xo_lt (xo_v ⟨iF _ _ _ _, fin2 x 1 hx (by rw [if_pos ⟨ca, cb⟩])⟩))))
      · exact xo_t (by rw [e3, if_neg cb]) (xo_eb (show FX9_flag E 0 _ = xv 0 _ from rfl) (xo_g ((y1 _).g8 (show 562 < 563 by omega)) (xo_lt (xo_v ⟨iF _ _ _ _, fin2 x 0 hx (by rw [if_neg (fun z => cb z.2)])⟩))))
  refine xo_jn (xo_jn ?_)
  rw [e44]
  by_cases ca : a = 0
  · refine xo_f (by rw [if_pos ca]; decide) ?_
    by_cases cb : b = 0
    · exact xo_f (by rw [e3, if_pos cb]; decide) (tail 0 (by rw [if_neg (fun z => z.2 cb)]))
    · exact xo_t (by rw [e3, if_neg cb]) (tail 1 (by rw [if_pos ⟨ca, cb⟩]))
  · exact xo_t (by rw [if_neg ca]) (tail 0 (by rw [if_neg (fun z => ca z.1)]))
/-- the end of a change of a module -/
theorem rjudge_o {α : Type} {h1 : XH} {m : Nat} {T : ST} {r : α} (y : YI h1 Y (zsT (zch Z) T)) (hm : m < snm (zS Z)) (e44 : xi h1 Y 44 = if whS (zS Z) (zT Z) m = 0 then 1 else 0) : xo (xg (xk h1 Y = 10) <| xb (FX9_ends E Y (nI m) h1) fun _ h11 => xv r h11) (fun v h2 => v = r ∧ iw (rYa Y) h1 h2 ∧ xi h2 Y 0 = xi h1 Y 0 ∧ YI h2 Y (zjd Z m T)) := by
  refine xo_g y.l.1 (xo_b (FX9_ends_o (Z1 := zsT (zch Z) T) y (show m < snm (zS (zch Z)) by rw [zch_S]; exact hm) e44) (fun _ h2 q2 => ?_))
  obtain ⟨i2, y2⟩ := q2
  refine xo_v ⟨rfl, i2.wide (fun a q => by unfold rYa; omega), i2.i _ (by omega), ?_⟩
  have e : whS (zS (zsT (zch Z) T)) T m = whS (zS Z) T m := by
    show whS (zS (zch Z)) T m = _
    rw [zch_S]
  have y3 : YI h2 Y (zsT (zch Z) (Tjd T (whS (zS Z) (zT Z) m) (whS (zS (zsT (zch Z) T)) T m))) := y2
  rw [e] at y3
  exact y3
theorem rT {T : ST} {h1 : XH} (y : YI h Y (zch Z)) (i : iw (fun a => a = Y + 8) h h1) (W : WT (zS Z) T) (t : TR h1 (Y + 8) 0 (zS Z) T) : YI h1 Y (zsT (zch Z) T) := YI_T y i (by rw [zch_S]; exact W) (by rw [zch_S]; exact t)
theorem R_setBoundary (y : YI h Y Z) (z : WZ Z) (hl : zld Z = true) {m a v : Nat} (hm : m < snm (zS Z)) (ha : a < nuS (zS Z) m) (hv : v < nlS2 (zS Z) m) : xo (FX9_setBoundary E Y (nI m) (nI a) (nI v) h) (fun r h2 => r = nI (tbd (zT Z) m a) ∧ iw (rYa Y) h h2 ∧ xi h2 Y 0 = 0 ∧ YI h2 Y (zjd Z m (Tbd (T1 (zT Z)) m a v))) := by
  have bm := y.bm hm
  have y0 := y.t 0
  have e2 := FX9_noLower_v (E := E) y0 hl hm hv
  rw [yi_yi] at e2
  unfold FX9_setBoundary
  refine xo_g y.l.1 (xo_eb (FX9_noUpper_v y hl hm ha) (xo_jn (xo_t rfl (xo_g y0.l.1 (xo_eb e2 (xo_t rfl (xo_g y0.l.1 (xo_b (FX9_touches_o y0 z.2.2.1.1 hm) (fun _ h1 q1 => ?_)))))))))
  obtain ⟨i1, e1, y1, w1⟩ := q1
  have M1 := rI y1
  have hh : 8 * m + a < 563 := by omega
  refine xo_g y1.l.1 (xo_eb (FX9_boundaryOf_v (M1.ym hm) (show a < dnu (mdS (zS Z) (T1 (zT Z)) m) from ha)) (xo_g y1.l.1 (xo_n y1.l.r8 ?_)))
  rw [show (0 : Int32) + 8 * nI m + nI a = nI (8 * m + a) by rw [Int32.zero_add, nI_8']]
  refine xo_g (y1.l.g8 hh) (xo_lt ?_)
  rw [xz_nI (by omega)]
  have W1 : WT (zS Z) (Tbd (T1 (zT Z)) m a v) := ⟨fun m' a' q1 q2 => by
    show (if m' = m ∧ a' = a then v else tbd (T1 (zT Z)) m' a') < _
    split
    · rename_i e; rw [e.1]; exact hv
    · exact M1.1.2.1 m' a' q1 q2, M1.1.2.2⟩
  have y2 := rT y1 (iw_yi (A := fun a => a = Y + 8) h1 (Y + 8) (8 * m + a) (nI v) rfl) W1 (TR_bd M1.1.1 M1.2.2.2 hm ha v)
  refine xo_w (rjudge_o y2 hm (by rw [xi_yi2 _ _ (Or.inl (by omega))]; exact w1)) (fun r h2 q => ⟨q.1, ?_, ?_, q.2.2.2⟩)
  · exact (((iw_yi (A := rYa Y) _ _ _ _ (by unfold rYa; omega)).trans i1 (fun _ q => q) (fun _ q => q)).yi _ _ _ (by unfold rYa; omega)).trans q.2.1 (fun _ q => q) (fun _ q => q)
  · rw [q.2.2.1, xi_yi2 _ _ (Or.inl (by omega)), e1, xi_yi1]
theorem R_setAct (y : YI h Y Z) (z : WZ Z) (hl : zld Z = true) {m g a v : Nat} (hm : m < snm (zS Z)) (hg : g < nlS2 (zS Z) m) (ha : a < nuS (zS Z) m) (hv : v < nuS (zS Z) m) : xo (FX9_setAct E Y (nI m) (nI g) (nI a) (nI v) h) (fun r h2 => r = nI (tac (zT Z) m g a) ∧ iw (rYa Y) h h2 ∧ xi h2 Y 0 = 0 ∧ YI h2 Y (zjd Z m (Tac (T1 (zT Z)) m g a v))) := by
  have bm := y.bm hm
  have y0 := y.t 0
  have e2 := FX9_noUpper_v (E := E) y0 hl hm ha
  rw [yi_yi] at e2
  have e3 := FX9_noUpper_v (E := E) y0 hl hm hv
  rw [yi_yi] at e3
  unfold FX9_setAct
  refine xo_g y.l.1 (xo_eb (FX9_noLower_v y hl hm hg) (xo_jn (xo_t rfl (xo_g y0.l.1 (xo_eb e2 (xo_t rfl (xo_g y0.l.1 (xo_eb e3 (xo_t rfl (xo_g y0.l.1 (xo_b (FX9_touches_o y0 z.2.2.1.1 hm) (fun _ h1 q1 => ?_))))))))))))
  obtain ⟨i1, e1, y1, w1⟩ := q1
  have M1 := rI y1
  have hh : 48 + 64 * m + 8 * g + a < 563 := by omega
  refine xo_g y1.l.1 (xo_eb (FX9_on_v (M1.ym hm) (show g < dnl (mdS (zS Z) (T1 (zT Z)) m) from hg) (show a < dnu (mdS (zS Z) (T1 (zT Z)) m) from ha)) (xo_g y1.l.1 (xo_n y1.l.r8 ?_)))
  rw [i48]
  refine xo_g (y1.l.g8 hh) (xo_lt ?_)
  rw [xz_nI (by omega)]
  have W1 : WT (zS Z) (Tac (T1 (zT Z)) m g a v) := ⟨M1.1.2.1, fun m' g' a' q1 q2 q3 => by
    show (if m' = m ∧ g' = g ∧ a' = a then v else tac (T1 (zT Z)) m' g' a') < _
    split
    · rename_i e; rw [e.1]; exact hv
    · exact M1.1.2.2.1 m' g' a' q1 q2 q3, M1.1.2.2.2⟩
  have y2 := rT y1 (iw_yi (A := fun a => a = Y + 8) h1 (Y + 8) (48 + 64 * m + 8 * g + a) (nI v) rfl) W1 (TR_ac M1.1.1 M1.2.2.2 hm hg ha v)
  refine xo_w (rjudge_o y2 hm (by rw [xi_yi2 _ _ (Or.inl (by omega))]; exact w1)) (fun r h2 q => ⟨q.1, ?_, ?_, q.2.2.2⟩)
  · exact (((iw_yi (A := rYa Y) _ _ _ _ (by unfold rYa; omega)).trans i1 (fun _ q => q) (fun _ q => q)).yi _ _ _ (by unfold rYa; omega)).trans q.2.1 (fun _ q => q) (fun _ q => q)
  · rw [q.2.2.1, xi_yi2 _ _ (Or.inl (by omega)), e1, xi_yi1]
theorem R_setTop (y : YI h Y Z) (z : WZ Z) (hl : zld Z = true) {a b v : Nat} (ha : a < sna (zS Z)) (hb : b < nuS (zS Z) (saf (zS Z) a)) (hv : v < nuS (zS Z) (sao (zS Z) a)) : xo (FX9_setTop E Y (nI a) (nI b) (nI v) h) (fun r h2 => r = nI (ttp (zT Z) a b) ∧ iw (rYa Y) h h2 ∧ xi h2 Y 0 = 0 ∧ YI h2 Y (zsT (zch Z) (Ttp (T1 (zT Z)) a b v))) := by
  have ba := y.ba ha
  have bm := y.bm ba.2.1
  have bo := y.bm ba.2.2
  have y0 := y.t 0
  have A0 := y0.1.1.ya ha
  have eu : FX9_uppers E Y (nI (sao (zS Z) a)) (yi h Y 0 0) = xv (nI (nuS (zS Z) (sao (zS Z) a))) (yi h Y 0 0) := FX9_uppers_v (y0.1.1.ym ba.2.2)
  unfold FX9_setTop
  refine xo_g y.l.1 (xo_eb (FX9_noTop_v y hl ha hb) (xo_jn (xo_t rfl (xo_g y0.l.1 (xo_n y0.l.r6 (xo_g (y0.l.g6 ba.1) (xo_g y0.l.1 ?_)))))))
  rw [A0.r6]
  refine xo_eb eu (xo_eb (in_t (by omega) hv) (xo_jn (xo_f (by decide) (xo_g y0.l.1 (xo_eb (FX9_refuse_0 y.l 2) (xo_t rfl (xo_g y0.l.1 (xo_b (FX9_begins_o y0 z.2.2.1.1) (fun _ h1 q1 => ?_)))))))))
  obtain ⟨i1, e1, y1⟩ := q1
  have M1 := rI y1
  have hh : 432 + 8 * a + b < 563 := by omega
  refine xo_g y1.l.1 (xo_eb (FX9_topOf_v (M1.ya ha) (show b < dnu (mdS (zS Z) (T1 (zT Z)) (saf (zS Z) a)) from hb)) (xo_g y1.l.1 (xo_n y1.l.r8 ?_)))
  rw [i432]
  refine xo_g (y1.l.g8 hh) (xo_lt ?_)
  rw [xz_nI (by omega)]
  have W1 : WT (zS Z) (Ttp (T1 (zT Z)) a b v) := ⟨M1.1.2.1, M1.1.2.2.1, fun a' x' q1 q2 => by
    show (if a' = a ∧ x' = b then v else ttp (T1 (zT Z)) a' x') < _
    split
    · rename_i e; rw [e.1]; exact hv
    · exact M1.1.2.2.2.1 a' x' q1 q2, M1.1.2.2.2.2⟩
  have y2 := rT y1 (iw_yi (A := fun a => a = Y + 8) h1 (Y + 8) (432 + 8 * a + b) (nI v) rfl) W1 (TR_tp M1.1.1 M1.2.2.2 ha hb v)
  refine xo_v ⟨rfl, ?_, ?_, y2⟩
  · exact ((iw_yi (A := rYa Y) _ _ _ _ (by unfold rYa; omega)).trans i1 (fun _ q => q) (fun _ q => q)).yi _ _ _ (by unfold rYa; omega)
  · rw [xi_yi2 _ _ (Or.inl (by omega)), e1, xi_yi1]
theorem R_setBottom (y : YI h Y Z) (z : WZ Z) (hl : zld Z = true) {a b v : Nat} (ha : a < sna (zS Z)) (hb : b < nlS2 (zS Z) (saf (zS Z) a)) (hv : v < nlS2 (zS Z) (sao (zS Z) a)) : xo (FX9_setBottom E Y (nI a) (nI b) (nI v) h) (fun r h2 => r = nI (tbt (zT Z) a b) ∧ iw (rYa Y) h h2 ∧ xi h2 Y 0 = 0 ∧ YI h2 Y (zsT (zch Z) (Tbt (T1 (zT Z)) a b v))) := by
  have ba := y.ba ha
  have bm := y.bm ba.2.1
  have bo := y.bm ba.2.2
  have y0 := y.t 0
  have A0 := y0.1.1.ya ha
  have eu : FX9_lowers E Y (nI (sao (zS Z) a)) (yi h Y 0 0) = xv (nI (nlS2 (zS Z) (sao (zS Z) a))) (yi h Y 0 0) := FX9_lowers_v (y0.1.1.ym ba.2.2)
  unfold FX9_setBottom
  refine xo_g y.l.1 (xo_eb (FX9_noBottom_v y hl ha hb) (xo_jn (xo_t rfl (xo_g y0.l.1 (xo_n y0.l.r6 (xo_g (y0.l.g6 ba.1) (xo_g y0.l.1 ?_)))))))
  rw [A0.r6]
  refine xo_eb eu (xo_eb (in_t (by omega) hv) (xo_jn (xo_f (by decide) (xo_g y0.l.1 (xo_eb (FX9_refuse_0 y.l 2) (xo_t rfl (xo_g y0.l.1 (xo_b (FX9_begins_o y0 z.2.2.1.1) (fun _ h1 q1 => ?_)))))))))
  obtain ⟨i1, e1, y1⟩ := q1
  have M1 := rI y1
  have hh : 496 + 8 * a + b < 563 := by omega
  refine xo_g y1.l.1 (xo_eb (FX9_bottomOf_v (M1.ya ha) (show b < dnl (mdS (zS Z) (T1 (zT Z)) (saf (zS Z) a)) from hb)) (xo_g y1.l.1 (xo_n y1.l.r8 ?_)))
  rw [i496]
  refine xo_g (y1.l.g8 hh) (xo_lt ?_)
  rw [xz_nI (by omega)]
  have W1 : WT (zS Z) (Tbt (T1 (zT Z)) a b v) := ⟨M1.1.2.1, M1.1.2.2.1, M1.1.2.2.2.1, fun a' x' q1 q2 => by
    show (if a' = a ∧ x' = b then v else tbt (T1 (zT Z)) a' x') < _
    split
    · rename_i e; rw [e.1]; exact hv
    · exact M1.1.2.2.2.2 a' x' q1 q2⟩
  have y2 := rT y1 (iw_yi (A := fun a => a = Y + 8) h1 (Y + 8) (496 + 8 * a + b) (nI v) rfl) W1 (TR_bt M1.1.1 M1.2.2.2 ha hb v)
  refine xo_v ⟨rfl, ?_, ?_, y2⟩
  · exact ((iw_yi (A := rYa Y) _ _ _ _ (by unfold rYa; omega)).trans i1 (fun _ q => q) (fun _ q => q)).yi _ _ _ (by unfold rYa; omega)
  · rw [xi_yi2 _ _ (Or.inl (by omega)), e1, xi_yi1]

theorem R_acts0 (y : YI h Y Z) (z8 : zun Z ≤ 8) {m : Nat} (hm : m < snm (zS Z)) : xo (FX9_acts E Y (nI m) 0 h) (fun v h2 => v = (zac Z m (fun _ a => a)).2 ∧ iw (rYa Y) h h2 ∧ xi h2 Y 0 = xi h Y 0 ∧ YI h2 Y (zjd Z m (zac Z m (fun _ a => a)).1)) := by
  have bm := y.bm hm
  unfold FX9_acts zac
  generalize he : (fun (_ : Nat) (a : Nat) => a) = e
  have ev : ∀ g a, g < nlS2 (zS Z) m → a < nuS (zS Z) m → e g a < nuS (zS Z) m := fun g a hg ha => by rw [← he]; exact ha
  refine xo_g y.l.1 (xo_b (FX9_touches_o y z8 hm) (fun _ h1 q1 => ?_))
  obtain ⟨i1, e1, y1, w1⟩ := q1
  have M1 := rI y1
  have y1' : YI h1 Y (zsT (zch Z) (T1 (zT Z))) := by rw [zch_TT]; exact y1
  refine xlp_inv (Po := fun m => xo m _) (fun i s h' => s = ((foB m e (nuS (zS Z) m) (T1 (zT Z)) i).2, nI i) ∧ iw (fun a => a = Y + 8) h1 h' ∧ YI h' Y (zsT (zch Z) (foB m e (nuS (zS Z) m) (T1 (zT Z)) i).1)) (nlS2 (zS Z) m) (by omega) (fun i s h2 ag hi I again => ?_) ⟨rfl, iw.refl _ _, y1'⟩
  obtain ⟨rfl, i2, y2⟩ := I
  have M2 : MI h2 Y (zS Z) (foB m e (nuS (zS Z) m) (T1 (zT Z)) i).1 := by
    have := y2.1.1
    rw [show zS (zsT (zch Z) (foB m e (nuS (zS Z) m) (T1 (zT Z)) i).1) = zS (zch Z) from rfl, zch_S] at this
    exact this
  refine xo_g y2.l.1 (xo_eb (FX9_lowers_v (M2.ym hm)) ?_)
  by_cases q : i = nlS2 (zS Z) m
  · subst q
    refine xo_t (Int32.le_refl _) (xo_w (rjudge_o (Z := Z) y2 hm (by rw [i2.i _ (by omega)]; exact w1)) (fun r h3 q => ⟨q.1, ?_, ?_, q.2.2.2⟩))
    · exact (i1.trans (i2.wide (D := rYa Y) (fun a q => by unfold rYa; omega)) (fun _ q => q) (fun _ q => q)).trans q.2.1 (fun _ q => q) (fun _ q => q)
    · rw [q.2.2.1, i2.i _ (by omega), e1]
  · have hlt : i < nlS2 (zS Z) m := by omega
    refine xo_f (show ¬ nI (nlS2 (zS Z) m) ≤ nI i from nI_ge hlt (by omega)) ?_
    refine xlp_inv (Po := fun m => xo m _) (fun k s h' => s = ((foA m e i (foB m e (nuS (zS Z) m) (T1 (zT Z)) i) k).2, nI k) ∧ iw (fun a => a = Y + 8) h1 h' ∧ YI h' Y (zsT (zch Z) (foA m e i (foB m e (nuS (zS Z) m) (T1 (zT Z)) i) k).1)) (nuS (zS Z) m) (by omega) (fun k s h3 ag' hk I again' => ?_) ⟨rfl, i2, y2⟩
    obtain ⟨rfl, i3, y3⟩ := I
    have M3 : MI h3 Y (zS Z) (foA m e i (foB m e (nuS (zS Z) m) (T1 (zT Z)) i) k).1 := by
      have := y3.1.1
      rw [show zS (zsT (zch Z) (foA m e i (foB m e (nuS (zS Z) m) (T1 (zT Z)) i) k).1) = zS (zch Z) from rfl, zch_S] at this
      exact this
    have Y3 := M3.ym hm
    refine xo_g y3.l.1 (xo_eb (FX9_uppers_v Y3) ?_)
    by_cases q : k = nuS (zS Z) m
    · subst q
      refine xo_t (Int32.le_refl _) ?_
      dsimp only
      rw [nI_s]
      exact again hlt _ _ ⟨rfl, i3, y3⟩
    · have hk2 : k < nuS (zS Z) m := by omega
      have ve := ev i k hlt hk2
      generalize hp : foA m e i (foB m e (nuS (zS Z) m) (T1 (zT Z)) i) k = p at *
      have tv : tac p.1 m i k < nuS (zS Z) m := M3.1.2.2.1 m i k hm hlt hk2
      have on : FX9_on E Y (nI m) (nI i) (nI k) h3 = xv (nI (tac p.1 m i k)) h3 := FX9_on_v Y3 hlt hk2
      have vk : nI k = nI (e i k) := by rw [← he]
      have ei : (if nI (tac p.1 m i k) = nI k then (0 : Int32) else 1) = if tac p.1 m i k = e i k then 0 else 1 := by
        rw [vk]
        by_cases c : tac p.1 m i k = e i k
        · rw [if_pos c, if_pos (by rw [c])]
        · rw [if_neg c, if_neg (by rw [nI_eqP (by omega) (by omega)]; exact c)]
      have hh : 48 + 64 * m + 8 * i + k < 563 := by omega
      refine xo_f (show ¬ nI (nuS (zS Z) m) ≤ nI k from nI_ge hk2 (by omega)) (xo_jn (xo_t rfl ?_))
      refine xo_g y3.l.1 (xo_eb on (xo_jsel (xo_eb flag_i (xo_lt (xo_g y3.l.1 (xo_n y3.l.r8 ?_))))))
      rw [i48]
      refine xo_g (y3.l.g8 hh) (xo_lt ?_)
      rw [xz_nI (by omega), nI_s, ei]
      have W1 : WT (zS Z) (Tac p.1 m i k (e i k)) := ⟨M3.1.2.1, fun m' g' a' q1 q2 q3 => by
        show (if m' = m ∧ g' = i ∧ a' = k then e i k else tac p.1 m' g' a') < _
        split
        · rename_i q; rw [q.1]; exact ve
        · exact M3.1.2.2.1 m' g' a' q1 q2 q3, M3.1.2.2.2⟩
      have y4 : YI (yi h3 (Y + 8) (48 + 64 * m + 8 * i + k) (nI k)) Y (zsT (zsT (zch Z) p.1) (Tac p.1 m i k (e i k))) := by
        rw [vk]
        exact YI_T y3 (iw_yi (A := fun a => a = Y + 8) _ _ _ _ rfl) (show WT (zS (zch Z)) _ by rw [zch_S]; exact W1) (show TR _ _ _ (zS (zch Z)) _ by rw [zch_S]; exact TR_ac M3.1.1 M3.2.2.2 hm hlt hk2 (e i k))
      have es : foA m e i (foB m e (nuS (zS Z) m) (T1 (zT Z)) i) (k + 1) = stA m e i k p := by
        rw [← hp]
        rfl
      refine again' hk2 _ _ ?_
      rw [es]
      exact ⟨rfl, i3.yi _ _ _ rfl, y4⟩

theorem R_acts1 (y : YI h Y Z) (z8 : zun Z ≤ 8) {m : Nat} (hm : m < snm (zS Z)) (hu : nuS (zS Z) m = nlS2 (zS Z) m) : xo (FX9_acts E Y (nI m) 1 h) (fun v h2 => v = (zac Z m (fun g a => sgt (zS Z) (smu (zS Z) m) (sgt (zS Z) (smu (zS Z) m) g a) (sgv (zS Z) (smu (zS Z) m) g))).2 ∧ iw (rYa Y) h h2 ∧ xi h2 Y 0 = xi h Y 0 ∧ YI h2 Y (zjd Z m (zac Z m (fun g a => sgt (zS Z) (smu (zS Z) m) (sgt (zS Z) (smu (zS Z) m) g a) (sgv (zS Z) (smu (zS Z) m) g))).1)) := by
  have bm := y.bm hm
  unfold FX9_acts zac
  have ga := (y.ws.2.1 _ (y.ws.2.2.1 m hm).1).2
  generalize he : (fun g a => sgt (zS Z) (smu (zS Z) m) (sgt (zS Z) (smu (zS Z) m) g a) (sgv (zS Z) (smu (zS Z) m) g)) = e
  have ev : ∀ g a, g < nuS (zS Z) m → a < nuS (zS Z) m → e g a < nuS (zS Z) m := fun g a hg ha => by
    rw [← he]
    exact ga.1 _ _ (ga.1 _ _ hg ha) (ga.2.1 _ hg)
  refine xo_g y.l.1 (xo_b (FX9_touches_o y z8 hm) (fun _ h1 q1 => ?_))
  obtain ⟨i1, e1, y1, w1⟩ := q1
  have M1 := rI y1
  have y1' : YI h1 Y (zsT (zch Z) (T1 (zT Z))) := by rw [zch_TT]; exact y1
  refine xlp_inv (Po := fun m => xo m _) (fun i s h' => s = ((foB m e (nuS (zS Z) m) (T1 (zT Z)) i).2, nI i) ∧ iw (fun a => a = Y + 8) h1 h' ∧ YI h' Y (zsT (zch Z) (foB m e (nuS (zS Z) m) (T1 (zT Z)) i).1)) (nlS2 (zS Z) m) (by omega) (fun i s h2 ag hi I again => ?_) ⟨rfl, iw.refl _ _, y1'⟩
  obtain ⟨rfl, i2, y2⟩ := I
  have M2 : MI h2 Y (zS Z) (foB m e (nuS (zS Z) m) (T1 (zT Z)) i).1 := by
    have := y2.1.1
    rw [show zS (zsT (zch Z) (foB m e (nuS (zS Z) m) (T1 (zT Z)) i).1) = zS (zch Z) from rfl, zch_S] at this
    exact this
  refine xo_g y2.l.1 (xo_eb (FX9_lowers_v (M2.ym hm)) ?_)
  by_cases q : i = nlS2 (zS Z) m
  · subst q
    refine xo_t (Int32.le_refl _) (xo_w (rjudge_o (Z := Z) y2 hm (by rw [i2.i _ (by omega)]; exact w1)) (fun r h3 q => ⟨q.1, ?_, ?_, q.2.2.2⟩))
    · exact (i1.trans (i2.wide (D := rYa Y) (fun a q => by unfold rYa; omega)) (fun _ q => q) (fun _ q => q)).trans q.2.1 (fun _ q => q) (fun _ q => q)
    · rw [q.2.2.1, i2.i _ (by omega), e1]
  · have hlt : i < nlS2 (zS Z) m := by omega
    refine xo_f (show ¬ nI (nlS2 (zS Z) m) ≤ nI i from nI_ge hlt (by omega)) ?_
    refine xlp_inv (Po := fun m => xo m _) (fun k s h' => s = ((foA m e i (foB m e (nuS (zS Z) m) (T1 (zT Z)) i) k).2, nI k) ∧ iw (fun a => a = Y + 8) h1 h' ∧ YI h' Y (zsT (zch Z) (foA m e i (foB m e (nuS (zS Z) m) (T1 (zT Z)) i) k).1)) (nuS (zS Z) m) (by omega) (fun k s h3 ag' hk I again' => ?_) ⟨rfl, i2, y2⟩
    obtain ⟨rfl, i3, y3⟩ := I
    have M3 : MI h3 Y (zS Z) (foA m e i (foB m e (nuS (zS Z) m) (T1 (zT Z)) i) k).1 := by
      have := y3.1.1
      rw [show zS (zsT (zch Z) (foA m e i (foB m e (nuS (zS Z) m) (T1 (zT Z)) i) k).1) = zS (zch Z) from rfl, zch_S] at this
      exact this
    have Y3 := M3.ym hm
    refine xo_g y3.l.1 (xo_eb (FX9_uppers_v Y3) ?_)
    by_cases q : k = nuS (zS Z) m
    · subst q
      refine xo_t (Int32.le_refl _) ?_
      dsimp only
      rw [nI_s]
      exact again hlt _ _ ⟨rfl, i3, y3⟩
    · have hk2 : k < nuS (zS Z) m := by omega
      have ve := ev i k (by omega) hk2
      generalize hp : foA m e i (foB m e (nuS (zS Z) m) (T1 (zT Z)) i) k = p at *
      have tv : tac p.1 m i k < nuS (zS Z) m := M3.1.2.2.1 m i k hm hlt hk2
      have on : FX9_on E Y (nI m) (nI i) (nI k) h3 = xv (nI (tac p.1 m i k)) h3 := FX9_on_v Y3 hlt hk2
      have vk : nI (e i k) = nI (e i k) := rfl
      have ei : (if nI (tac p.1 m i k) = nI (e i k) then (0 : Int32) else 1) = if tac p.1 m i k = e i k then 0 else 1 := by
        rw [vk]
        by_cases c : tac p.1 m i k = e i k
        · rw [if_pos c, if_pos (by rw [c])]
        · rw [if_neg c, if_neg (by rw [nI_eqP (by omega) (by omega)]; exact c)]
      have hh : 48 + 64 * m + 8 * i + k < 563 := by omega
      refine xo_f (show ¬ nI (nuS (zS Z) m) ≤ nI k from nI_ge hk2 (by omega)) (xo_jn (xo_f (by decide) (xo_g y3.l.1 (xo_n y3.l.r3 (xo_g (y3.l.g3 bm.1) (xo_g y3.l.1 ?_))))))
      have ec : FX9_conjugateOf E Y (nI (smu (zS Z) m)) (nI i) (nI k) h3 = xv (nI (e i k)) h3 := by
        rw [← he]
        exact FX9_conjugateOf_v y3.l (M3.yg (M3.1.1.2.2.1 m hm).1) ga (show i < nuS (zS Z) m by omega) hk2
      rw [xz_nI (by omega), Y3.2.1.1]
      refine xo_eb ec ?_
      refine xo_g y3.l.1 (xo_eb on (xo_jsel (xo_eb flag_i (xo_lt (xo_g y3.l.1 (xo_n y3.l.r8 ?_))))))
      rw [i48]
      refine xo_g (y3.l.g8 hh) (xo_lt ?_)
      rw [xz_nI (by omega), nI_s, ei]
      have W1 : WT (zS Z) (Tac p.1 m i k (e i k)) := ⟨M3.1.2.1, fun m' g' a' q1 q2 q3 => by
        show (if m' = m ∧ g' = i ∧ a' = k then e i k else tac p.1 m' g' a') < _
        split
        · rename_i q; rw [q.1]; exact ve
        · exact M3.1.2.2.1 m' g' a' q1 q2 q3, M3.1.2.2.2⟩
      have y4 : YI (yi h3 (Y + 8) (48 + 64 * m + 8 * i + k) (nI (e i k))) Y (zsT (zsT (zch Z) p.1) (Tac p.1 m i k (e i k))) := by
        rw [vk]
        exact YI_T y3 (iw_yi (A := fun a => a = Y + 8) _ _ _ _ rfl) (show WT (zS (zch Z)) _ by rw [zch_S]; exact W1) (show TR _ _ _ (zS (zch Z)) _ by rw [zch_S]; exact TR_ac M3.1.1 M3.2.2.2 hm hlt hk2 (e i k))
      have es : foA m e i (foB m e (nuS (zS Z) m) (T1 (zT Z)) i) (k + 1) = stA m e i k p := by
        rw [← hp]
        rfl
      refine again' hk2 _ _ ?_
      rw [es]
      exact ⟨rfl, i3.yi _ _ _ rfl, y4⟩
end REG
