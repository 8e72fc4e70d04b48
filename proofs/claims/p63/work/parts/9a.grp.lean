/-! The law: texts, groups. -/
set_option linter.unusedVariables false
/-- the names that the law gives, and how many there are -/
def LN (S : SD) : Prop := (∀ k, k < sng S → snn S 0 k = [103, 97 + k]) ∧ (∀ m, m < snm S → snn S 1 m = [109, 97 + m]) ∧ sng S ≤ 3 ∧ snm S ≤ 4 ∧ sna S ≤ 3
section GRPL
variable {E : XG} {h h' : XH} {X c : Nat} {gb mb ab : Nat → Nat} {S : SD} {T : ST}
theorem xo_j55 {α β : Type} {k : XH → XP α} {c g : Prop} [Decidable c] [Decidable g] {m : XP β} {R : XH → Prop} {Q : α → XH → Prop} (h1 : c → R h) (h2 : ¬ c → g ∧ xo m (fun _ h' => R h')) (hk : ∀ h', R h' → xo (k h') Q) : xo (xjn k fun j => if c then j h else xg g (xb m fun v h2 => j h2)) Q := by
  show xo (if c then k h else xg g (xb m fun v h2 => k h2)) Q
  by_cases hc : c
  · rw [if_pos hc]; exact hk _ (h1 hc)
  · rw [if_neg hc]
    obtain ⟨g1, g2⟩ := h2 hc
    exact xo_g g1 (xo_b g2 (fun v h2 q => hk _ q))
theorem xo_jif {α δ : Type} {k : δ → XH → XP α} {c : Prop} [Decidable c] {x y : δ} {Q : α → XH → Prop} (hk : xo (k (if c then x else y) h) Q) : xo (xjn k fun j => if c then j x h else j y h) Q := by
  show xo (if c then k x h else k y h) Q
  by_cases hc : c
  · rw [if_pos hc] at hk ⊢; exact hk
  · rw [if_neg hc] at hk ⊢; exact hk
theorem GS_yx (q : GS h X c gb mb ab S T) : GS (yx h) X c gb mb ab S T := GS_n q (Gr_yx (Gr_refl nD h))
/-- an exception that the law waits for -/
theorem thr_g {p a b cc d : Int32} {m : XP Int32} {q : Nat} (g : GS h X c gb mb ab S T) (e : FL_calls E X p a b cc d h = xg (xk h X = 9) (xb m fun v h2 => xv (Int32.toInt64 v) h2)) (em : m = xx q h) (hq : q < 3) : xo (FL_thrown E X p a b cc d h) (fun v h2 => v = nI (q + 1) ∧ GS h2 X c gb mb ab S T ∧ Gr nD 1 6 h h2) := ⟨_, _, thr_x g.x.k e em hq, rfl, GS_yx g, Gr_yx (Gr_refl nD h)⟩
theorem thr_gq {p a b cc d : Int32} {m : XP Int32} {q : Nat} (g : GS h X c gb mb ab S T) (e : FL_calls E X p a b cc d h = xg (xk h X = 9) (xb m fun v h2 => xv (Int32.toInt64 v) h2)) (em : xq m (fun r h1 => r = .inr q ∧ iw (rXP X) h h1)) (hq : q < 3) : xo (FL_thrown E X p a b cc d h) (fun v h2 => v = nI (q + 1) ∧ GS h2 X c gb mb ab S T ∧ Gr (rXa X) 1 6 h h2) := by
  obtain ⟨r, h1, e1, rfl, i⟩ := em
  obtain ⟨g1, g2⟩ := GS_iw g i
  exact ⟨_, _, thr_x g.x.k e e1 hq, rfl, GS_yx g1, Gr_yx g2⟩
/-- the builder stays where the class writes -/
theorem SB_iw {b A : Nat} {l : List Nat} {B : Nat → Prop} (q : SB h b A l) (i : iw B h h') (h1 : ¬ B b) (h2 : ¬ B A) : SB h' b A l := by
  obtain ⟨⟨q1, q2, q3, q4⟩, ⟨q5, q6, q7⟩, ⟨q8, q9⟩, q10, q11⟩ := q
  refine ⟨⟨(i.k _).trans q1, (i.r _ _).trans q2, (i.i _ h1).trans q3, (i.i _ h1).trans q4⟩, ⟨(i.k _).trans q5, by rw [i.n]; exact q6, by rw [i.n]; exact q7⟩, ⟨by rw [i.t]; exact q8, by rw [i.t]; exact q9⟩, fun j hj => ⟨(i.i _ h2).trans (q10 j hj).1, (q10 j hj).2⟩, fun j hj => ?_⟩
  rw [i.i _ h2]
  rw [i.n] at hj
  exact q11 j hj
theorem txt_v {w s f b A : Nat} {Z : ZD} {l : List Nat} (x : XI h X w s f Z) (z : WZ Z) (q : SB h b A l) (e1 : ztl Z = l.length) (e2 : ∀ i, i < l.length → ztx Z i = l.getD i 0) : FL_isText E X b h = xv 1 (yx h) := by
  have l71 : l.length ≤ 71 := by rw [← e1]; exact z.2.2.2.2.2.1
  unfold FL_isText
  refine xlp_all (fun i => nI i) (fun _ => h) l.length (by omega) (fun i hi ag => ?_) (fun ag => ?_)
  · rw [xg_t q.k, xb_eq (len_v q), if_neg (nI_ge hi (by omega)), xg_t x.k, xb_eq (c8_textByte x z (by omega)), xg_t q.k, xb_eq (chr_v q hi (by omega)), e2 i hi, if_pos rfl, nI_s]
  · rw [xg_t q.k, xb_eq (len_v q), if_pos (Int32.le_refl _), xg_t q.k, xb_eq (len_v q), xb_eq (thr_x x.k lc_23 (c8_textByte1 x z (by omega) (by omega)) (by omega)), xjn_d, if_pos (by decide)]
    exact xg_t (Or.inr rfl)
theorem setF : ∀ n, n < 9 → setS (sh n) n = false := by decide +kernel
theorem inrF : ∀ n, n < 9 → inr (nI n) n = false := by decide +kernel
theorem wtT_s (n : Nat) (t : Nat → Nat → Nat) (a : Nat) : wtT n t (a + 1) = wtR t a (wtA a (wtT n t a)) n := rfl
theorem wtR_s (t : Nat → Nat → Nat) (a : Nat) (l : List Nat) (b : Nat) : wtR t a l (b + 1) = wtR t a l b ++ [48 + t a b] := rfl
theorem wtT_le {n : Nat} (hn : n ≤ 8) (t : Nat → Nat → Nat) (a : Nat) : (wtT n t a).length ≤ 9 * a := by
  induction a with
  | zero => exact Nat.le_refl _
  | succ a ih =>
    rw [wtT_s, wtR_len, wtA_len]
    split <;> omega
theorem grp_o (q : GS h X c gb mb ab S T) (n : LN S) : xo (FL_groups E X c h) (fun v h' => v = 1 ∧ GS h' X c gb mb ab S T ∧ Gr (rXa X) 240 420000 h h') := by
  have g3 := n.2.2.1
  unfold FL_groups
  refine xlp_inv (Po := fun m => xo m _) (fun k s h' => s = nI k ∧ GS h' X c gb mb ab S T ∧ Gr (rXa X) (80 * k) (140000 * k) h h') (sng S) (by omega) (fun k s h1 ag hk J again => ?_) ⟨rfl, q, Gr_refl _ h⟩
  obtain ⟨rfl, q1, gr1⟩ := J
  refine xo_g q1.w.k ?_
  by_cases e : k = sng S
  · refine xo_t (by rw [q1.w.i5, e]; exact Int32.le_refl _) (xo_g (Or.inr rfl) (xo_v ⟨rfl, q1, Gr_more gr1 (by omega) (by omega)⟩))
  · have hlt : k < sng S := by omega
    have gw := q1.w.ws.2.1 k hlt
    have n8 := gw.1.2
    have n0 := gw.1.1
    have GA1 := gw.2
    refine xo_f (by rw [q1.w.i5]; exact nI_ge hlt (by omega)) (xo_g q1.w.k (xo_n q1.w.r1 ?_))
    rw [lgrow q1.w hlt]
    refine xo_al (fun h5 e5 => ?_)
    have t1 := q1.t
    have g5 := Gr_ya (Gr_refl nD h1) 24 0
    rw [← e5] at g5
    have g5 : Gr nD 1 4 h1 h5 := g5
    have k5 : xk h5 (xt h1) = 24 := by rw [e5, xk_ya, if_pos rfl]
    have z5 : ∀ j, xi h5 (xt h1) j = 0 := fun j => by rw [e5, xi_ya, if_pos rfl]
    have t5 : xt h1 < xt h5 := by rw [e5]; exact Nat.lt_succ_self _
    obtain ⟨b, eb⟩ : ∃ b, b = xt h1 := ⟨_, rfl⟩
    rw [← eb] at k5 z5 t5 ⊢
    refine xo_b (init_0 g5 k5 z5 t5 (fun z => by omega)) (fun _ h6 p6 => ?_)
    -- what stands while the text grows
    have st : ∀ {cc uu : Nat} {h2 : XH} {l : List Nat}, AP nD cc uu h1 b h2 l → GS h2 X c gb mb ab S T ∧ xk h2 b = 24 := fun p => by
      obtain ⟨A, a1, a2, a3⟩ := p
      exact ⟨GS_n q1 a3, a1.k⟩
    refine xlp_inv (Po := fun m => xo m _) (fun x s h' => s = (orI (fun a => if anyB (sgn S k) (fun b => sgt S k a b ≠ sgt S k b a) then 0 else sh a) x, nI x) ∧ AP nD (2 + 9 * x) (20 + 16560 * x) h1 b h' (wtT (sgn S k) (sgt S k) x)) (sgn S k) (by omega) (fun x s h7 ag2 hx J again2 => ?_) ⟨rfl, p6⟩
    obtain ⟨rfl, p7⟩ := J
    obtain ⟨q7, k7⟩ := st p7
    have tb7 := q7.w.tb hlt
    have L7 := wtT_le n8 (sgt S k) x
    dsimp only
    refine xo_g tb7.1.1.1 ?_
    by_cases ex : x = sgn S k
    · -- the row of rows is written: the class's own text
      refine xo_t (by rw [tb7.1.1.2, ex]; exact Int32.le_refl _) (xo_g q7.x.k (xo_eb (q8_size q7.x hlt) (xo_g tb7.1.1.1 (xo_jn (xo_t (by rw [tb7.1.1.2]; rfl) (xo_g q7.x.k (xo_eb (q8_centre q7.x hlt) (xo_t (by rw [ex]; rfl) (xo_g q7.x.k ?_)))))))))
      have nm := n.1 k hlt
      have l0 : FX8_letter E X 0 (nI k) 0 h7 = xv 103 h7 := by
        have := q8_letter (E := E) q7.x (t := 0) (k := k) (i := 0) (by omega) hlt (by rw [nm]; simp)
        rw [nm] at this
        exact this
      have l1 : FX8_letter E X 0 (nI k) 1 h7 = xv (nI (97 + k)) h7 := by
        have := q8_letter (E := E) q7.x (t := 0) (k := k) (i := 1) (by omega) hlt (by rw [nm]; simp)
        rw [nm] at this
        exact this
      refine xo_eb l0 (xo_t rfl (xo_g q7.x.k (xo_eb l1 (xo_t (nI_a 97 k).symm (xo_g q7.x.k ?_)))))
      obtain ⟨A, a1, a2, a3⟩ := p7
      obtain ⟨⟨w9, s9, f9, Z, x9, z9, hl9, e1, e2, t9⟩, w7, o7⟩ := q7
      subst e1; subst e2
      obtain ⟨z10, c10⟩ := C_writeTable (E := E) x9 z9 hl9 hlt
      refine xo_b c10 (fun v17 h18 y => ?_)
      obtain ⟨rfl, i18, w10, s10, f10, x18⟩ := y
      have hA : X + 223 ≤ A := by
        have := a2.2
        rcases Nat.lt_or_ge A (xt h1) with y | y
        · exact (this y).elim
        · omega
      have sb18 : SB h18 b A (wtT (sgn (zS Z) k) (sgt (zS Z) k) x) := SB_iw a1 i18 (fun y => by unfold rXa at y; omega) (fun y => by unfold rXa at y; omega)
      have q18 : GS h18 X c gb mb ab (zS Z) (zT Z) := ⟨⟨w10, s10, f10, _, x18, z10, hl9, rfl, rfl, by rw [i18.t]; exact t9⟩, lW_sm w7 o7 (fun a y1 y2 => smC_iw i18 (fun y => by unfold rXa at y; omega)), o7⟩
      have gr18 : Gr (rXa X) (2 + 9 * x) (20 + 16560 * x) h1 h18 := Gr_iw (Gr_wide a3 (fun _ y => y.elim) (Nat.le_refl _) (Nat.le_refl _)) i18 (fun a y => ⟨by unfold rXa at y; omega, fun _ => y⟩)
      rw [ex] at sb18
      refine xo_g sb18.k (xo_eb (len_v sb18) (xo_t rfl (xo_eb (txt_v x18 z10 sb18 rfl (fun _ _ => rfl)) (xo_f (by decide) ?_))))
      have q22 := GS_yx q18
      have tb22 := q22.w.tb hlt
      refine xo_g tb22.1.1.1 ?_
      rw [tb22.1.1.2, ofNat_nI]
      refine xo_b (thr_g q22 lc_2 (q8_times1 q22.x hlt (inrF _ (by omega)) 0) (by omega)) (fun v23 h24 y => ?_)
      obtain ⟨rfl, q24, gr24⟩ := y
      have tb24 := q24.w.tb hlt
      refine xo_jn (xo_t rfl (xo_g tb24.1.1.1 ?_))
      rw [tb24.1.1.2, ofNat_nI, sh_d]
      refine xo_b (thr_g q24 lc_3 (q8_generated3 q24.x hlt (setF _ (by omega))) (by omega)) (fun v26 h27 y => ?_)
      obtain ⟨rfl, q27, gr27⟩ := y
      refine xo_t rfl (xo_b (thr_g q27 lc_1 (show FX8_letter E X 0 (nI k) 2 h27 = xx 1 h27 from q8_letter1 q27.x (t := 0) (i := 2) (by omega) hlt (by rw [nm]; simp) (by omega)) (by omega)) (fun v28 h29 y => ?_))
      obtain ⟨rfl, q29, gr29⟩ := y
      refine xo_t rfl ?_
      rw [nI_s]
      refine again hlt _ _ ⟨rfl, q29, ?_⟩
      have r1 := Gr_trans (D := rXa X) gr1 (Gr_yx gr18) (fun _ y => y) (fun _ y _ => y)
      have r2 := Gr_trans (D := rXa X) r1 gr24 (fun _ y => y) (fun _ y _ => y.elim)
      have r3 := Gr_trans (D := rXa X) r2 gr27 (fun _ y => y) (fun _ y _ => y.elim)
      have r4 := Gr_trans (D := rXa X) r3 gr29 (fun _ y => y) (fun _ y _ => y.elim)
      exact Gr_more r4 (by omega) (by omega)
    · have hlx : x < sgn S k := by omega
      refine xo_f (by rw [tb7.1.1.2]; exact nI_ge hlx (by omega)) ?_
      refine xo_j55 (R := fun h30 => AP nD (2 + 9 * x + 1) (20 + 16560 * x + 1840) h1 b h30 (wtA x (wtT (sgn S k) (sgt S k) x))) (fun y => ?_) (fun y => ⟨k7, ?_⟩) (fun h30 p30 => ?_)
      · have x0 : x = 0 := by
          rw [li0, nI_leP (by omega) (by omega)] at y
          omega
        subst x0
        exact p7.more (by omega) (by omega)
      · have x0 : ¬ x = 0 := fun z => y (by subst z; exact Int32.le_refl _)
        refine xo_w (app_char p7 (x := 47) (by omega) (by omega)) (fun v h2 z => ?_)
        unfold wtA
        rw [if_neg x0]
        exact z.2
      · have LA : (wtA x (wtT (sgn S k) (sgt S k) x)).length ≤ 9 * x + 1 := by
          rw [wtA_len]
          split <;> omega
        refine xlp_inv (Po := fun m => xo m _) (fun y s h' => s = (bI (!anyB y (fun b => sgt S k x b ≠ sgt S k b x)), nI y) ∧ AP nD (2 + 9 * x + 1 + y) (20 + 16560 * x + 1840 + 1840 * y) h1 b h' (wtR (sgt S k) x (wtA x (wtT (sgn S k) (sgt S k) x)) y)) (sgn S k) (by omega) (fun y s h31 ag3 hy J again3 => ?_) ⟨rfl, p30⟩
        obtain ⟨rfl, p31⟩ := J
        obtain ⟨q31, k31⟩ := st p31
        have tb31 := q31.w.tb hlt
        dsimp only
        refine xo_g tb31.1.1.1 ?_
        by_cases ey : y = sgn S k
        · subst ey
          refine xo_t (by rw [tb31.1.1.2]; exact Int32.le_refl _) (xo_jif ?_)
          have ev : (if (bI (!anyB (sgn S k) (fun b => sgt S k x b ≠ sgt S k b x)) : Int32) = 0 then (0 : Int32) else 1 <<< (nI x &&& 31)) = if anyB (sgn S k) (fun b => sgt S k x b ≠ sgt S k b x) then 0 else sh x := by
            cases anyB (sgn S k) (fun b => sgt S k x b ≠ sgt S k b x) <;> rfl
          rw [ev]
          refine xo_lt (xo_g q31.x.k (xo_eb (q8_inverse q31.x hlt hlx) (xo_eb (inv_v tb31 GA1 n8 hlx) (xo_jn (xo_t rfl (xo_g q31.x.k (xo_eb (q8_orderOf q31.x hlt hlx) (xo_eb (ord_v tb31 GA1 n8 hlx) (xo_t rfl ?_)))))))))
          rw [nI_s]
          exact again2 hlx _ _ ⟨rfl, by rw [wtT_s]; exact p31.more (by omega) (by omega)⟩
        · have hly : y < sgn S k := by omega
          have tlt := GA1.cl hlx hly
          refine xo_f (by rw [tb31.1.1.2]; exact nI_ge hly (by omega)) (xo_g q31.x.k (xo_eb (q8_times q31.x hlt hlx hly) ?_))
          rw [lrow tb31.1 (by omega) hlx]
          refine xo_g (lS_c tb31.1 hlx hly (by omega)) (xo_t (lV_v tb31 hlx hly (by omega)).symm ?_)
          rw [lrow tb31.1 (by omega) hlx]
          refine xo_g (lS_c tb31.1 hlx hly (by omega)) ?_
          rw [lrow tb31.1 (by omega) hly]
          refine xo_g (lS_c tb31.1 hly hlx (by omega)) (xo_jif (xo_lt ?_))
          rw [lrow tb31.1 (by omega) hlx]
          refine xo_g (lS_c tb31.1 hlx hly (by omega)) (xo_g k31 ?_)
          rw [lV_v tb31 hlx hly (by omega), lV_v tb31 hly hlx (by omega)]
          refine xo_b (app_int p31 (by omega) (by rw [wtR_len]; omega)) (fun v53 h54 z => ?_)
          obtain ⟨-, p54⟩ := z
          rw [nI_s]
          refine again3 hly _ _ ⟨?_, p54.more (by omega) (by omega)⟩
          rw [anyB_s]
          congr 1
          by_cases eq : sgt S k x y = sgt S k y x
          · rw [if_pos (congrArg nI eq), decide_eq_false (fun z => z eq), Bool.or_false]
            cases anyB y (fun b => sgt S k x b ≠ sgt S k b x) <;> rfl
          · rw [if_neg (fun z => eq ((nI_eq (by omega) (by have := GA1.cl hly hlx; omega)).mp z)), decide_eq_true eq, Bool.or_true]
            cases anyB y (fun b => sgt S k x b ≠ sgt S k b x) <;> rfl
end GRPL
