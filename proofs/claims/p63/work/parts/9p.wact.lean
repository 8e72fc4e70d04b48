/-! The World made: the acts of its modules. -/
set_option linter.unusedVariables false
section WAC
variable {E : XG} {h h' h0 : XH} {c d s n k : Nat} {gb bm ab : Nat → Nat} {S : SD} {T : ST}
/-- what the acts told so far have made of T -/
def AT (S : SD) (T : ST) (u lo : Nat) (f : Nat → Nat) (e : Nat → Nat → Nat) (T2 : ST) : Prop := (∀ a, tbd T2 (snm S) a = f a) ∧ (∀ y a, y < sgn S lo → a < sgn S u → tac T2 (snm S) y a = e y a) ∧ (∀ m, ¬ m = snm S → tbd T2 m = tbd T m ∧ tac T2 m = tac T m) ∧ T2.2.2 = T.2.2
theorem wac_o {M z u lo nl1 : Nat} {v14 v35 : Int32} {lb : List Nat} {f : Nat → Nat} {D1 : Nat → Int32} (H : MH h0 c d s M z (gb u) (gb lo) (sgn S u) (sgn S lo) gb bm ab S T) (hu : u < sng S) (hl : lo < sng S) (ms : MS h0 c d s n M z (gb u) (gb lo) h k (dSt (dN S u lo) f (fun _ a => a)) 22 (22 * 1840) lb) (rd : RD lb nl1 (mS S u lo) (Tmd S T f) D1) (hD : ∀ x, x < 32 → mb (D1 (snm S)) x = false) (N : NM3 S) (m4 : snm S < 4) (hv : v14 = 0 ∨ (v14 = 1 ∧ u = lo)) (hv2 : v35 = 0 ∨ lb.length + 26 * sgn S lo < 600) {α : Type} {Q : α → XH → Prop} {K : XH → XP α}
    (hK : ∀ h39 e T2 D2 l2 nl2, MS h0 c d s n M z (gb u) (gb lo) h39 k (dSt (dN S u lo) f e) 190 (190 * 1840) l2 → RD l2 nl2 (mS S u lo) T2 D2 → AT S T u lo f e T2 → nl2 ≤ nl1 + 8 → (l2.length ≤ 600 ∨ l2 = lb) → xo (K h39) Q) :
    xo (xlp (fun again248 (s248 : Int32) h37 => xg (xk h37 M = 22) <| xnn (xr h37 M 4) fun w38 => xg (xk h37 w38 = 18) <| xjn (fun  (h39 : XH) => K h39) fun (j382 : XH → XP α) => if ((Int32.ofNat (xn h37 w38)) : Int32) ≤ s248 then (j382 h37) else (if (v14 : Int32) = 0 then (j382 h37) else (if (v35 : Int32) = 0 then (j382 h37) else (xg (xk h37 c = 23) <| xnn (xr h37 c 1) fun w43 => xg (xk h37 w43 = 19 ∧ xin (nI u) (xn h37 w43)) <| xnn (xr h37 w43 (nI u : Int32).toNatClampNeg) fun w44 => xb (FL_isAbelian E w44 h37) fun v45 h46 => if (v45 : Int32) = 0 then (xg (xk h46 c = 23) <| xnn (xr h46 c 0) fun w47 => xg (xk h46 w47 = 24) <| xb (FJ4_append_15ec4 E w47 22 h46) fun v48 h49 => xg (xk h49 c = 23) <| xg (xk h49 v48 = 24) <| xb (FJ4_append_cf468 E v48 ((Int32.toUInt32 (97 + (xi h49 c 6))) % 65536).toInt32 h49) fun v50 h51 => xg (xk h51 v50 = 24) <| xb (FJ4_append_cf468 E v50 32 h51) fun v52 h53 => xg (xk h53 v52 = 24) <| xb (FJ4_append_bf812 E v52 s248 h53) fun v54 h55 => xlp (fun again315 (s315 : Int32) h56 => xg (xk h56 M = 22) <| xnn (xr h56 M 5) fun w57 => xg (xk h56 w57 = 12) <| if ((Int32.ofNat (xn h56 w57)) : Int32) ≤ s315 then (again248 (s248 + 1) h56) else (xg (xk h56 M = 22) <| xnn (xr h56 M 4) fun w58 => xg (xk h56 w58 = 18 ∧ xin s248 (xn h56 w58)) <| xnn (xr h56 w58 (s248 : Int32).toNatClampNeg) fun w59 => xg (xk h56 M = 22) <| xb (FX11_conjugate E M s248 s315 h56) fun v60 h61 => xg (xk h61 w59 = 12 ∧ xin s315 (xn h61 w59)) <| xlt (yi h61 w59 (s315 : Int32).toNatClampNeg v60) fun h62 => xg (xk h62 c = 23) <| xnn (xr h62 c 0) fun w63 => xg (xk h62 w63 = 24) <| xb (FJ4_append_cf468 E w63 32 h62) fun v64 h65 => xg (xk h65 M = 22) <| xnn (xr h65 M 4) fun w66 => xg (xk h65 w66 = 18 ∧ xin s248 (xn h65 w66)) <| xnn (xr h65 w66 (s248 : Int32).toNatClampNeg) fun w67 => xg (xk h65 w67 = 12 ∧ xin s315 (xn h65 w67)) <| xg (xk h65 v64 = 24) <| xb (FJ4_append_bf812 E v64 (xi h65 w67 (s315 : Int32).toNatClampNeg) h65) fun v68 h69 => again315 (s315 + 1) h69)) xfu 0 h55) else (j382 h46))))) xfu 0 h) Q := by
  have W := H.1.1.ws
  have g6 := W.1.1
  have u8 := (W.2.1 u hu).1
  have GU := (W.2.1 u hu).2
  have l8 := (W.2.1 lo hl).1
  have l22 : (wJS 22).length = 6 := by decide +kernel
  have W1 := WS_m (u := u) (lo := lo) W (by omega) hu hl
  have N1 := NM3_m (u := u) (lo := lo) N
  refine xlp_inv (Po := fun m => xo m Q) (fun g st h' => st = nI g ∧ ∃ e T2 D2 l2 nl2, MS h0 c d s n M z (gb u) (gb lo) h' k (dSt (dN S u lo) f e) (22 + 20 * g) ((22 + 20 * g) * 1840) l2 ∧ RD l2 nl2 (mS S u lo) T2 D2 ∧ AT S T u lo f e T2 ∧ (∀ x, g ≤ x → x < 32 → mb (D2 (snm S)) x = false) ∧ nl2 ≤ nl1 + g ∧ (l2.length ≤ lb.length + 25 * g ∧ (g = 0 → l2 = lb) ∧ (0 < g → lb.length + 26 * sgn S lo < 600))) (sgn S lo) (by omega) (fun g st h37 ag hg J again => ?_) ⟨rfl, fun _ a => a, Tmd S T f, D1, lb, nl1, ms, rd, ⟨fun a => if_pos rfl, fun y a _ _ => if_pos rfl, fun m e => ⟨funext fun a => if_neg e, funext fun y => funext fun a => if_neg e⟩, rfl⟩, fun x _ hx => hD x hx, Nat.le_refl _, Nat.le_refl _, fun _ => rfl, fun q => absurd q (Nat.lt_irrefl _)⟩
  obtain ⟨rfl, e, T2, D2, l2, nl2, m37, r37, at37, d37, n37, L1, L2, L3⟩ := J
  have M37 := m37.2.2.2
  have w37 := (MS_w H m37).1
  refine xo_g M37.k (xo_n M37.r4 (xo_g M37.a.1.1.1 ?_))
  refine xo_jk (R := fun h39 => h39 = h37) (fun h39 y => ?_) (fun j K' => ?_)
  · subst y
    refine hK h39 e T2 D2 l2 nl2 (m37.more (by omega) (by omega)) r37 at37 (by omega) ?_
    by_cases g0 : g = 0
    · exact Or.inr (L2 g0)
    · have := L3 (by omega)
      exact Or.inl (by omega)
  · by_cases eg : g = sgn S lo
    · exact xo_t (by rw [M37.a.1.1.2, eg]; exact Int32.le_refl _) (K' _ rfl)
    · have hlg : g < sgn S lo := by omega
      refine xo_f (by rw [M37.a.1.1.2]; exact nI_ge (show g < sgn S lo from hlg) (by show sgn S lo < 2 ^ 31; omega)) ?_
      rcases hv with hv | ⟨hv, hul⟩
      · exact xo_t hv (K' _ rfl)
      · refine xo_f (by rw [hv]; decide) ?_
        by_cases hv3 : v35 = 0
        · exact xo_t hv3 (K' _ rfl)
        · have fits : lb.length + 26 * sgn S lo < 600 := by
            rcases hv2 with q | q
            · exact absurd q hv3
            · exact q
          refine xo_f hv3 (xo_g w37.k (xo_n w37.r1 ?_))
          rw [lgrow w37 hu]
          refine xo_b (abl_o (w37.tb hu) u8.2 (fun a b ha hb => GU.cl ha hb)) (fun v45 h46 y => ?_)
          obtain ⟨-, rfl⟩ := y
          by_cases v0 : v45 = 0
          · have hgu : g < sgn S u := by rw [hul]; exact hlg
            have L2' : l2.length ≤ 600 := by omega
            refine xo_t v0 (xo_g w37.k (xo_n (MS_w H m37).2.1 (xo_g (MS_w H m37).2.2 (xo_b (app_str (MS_p m37) (i := 22) (by decide) (by omega)) (fun v48 h49 y => ?_)))))
            obtain ⟨rfl, p49⟩ := y
            have m49 := MS_a H m37 p49
            obtain ⟨w49, -, s49⟩ := MS_w H m49
            refine xo_g w49.k (xo_g s49 ?_)
            rw [w49.i6, let26 _ (by omega)]
            refine xo_b (app_char (MS_p m49) (x := 97 + snm S) (by omega) (by rw [List.length_append]; omega)) (fun v50 h51 y => ?_)
            obtain ⟨rfl, p51⟩ := y
            have m51 := MS_a H m49 p51
            have ln51 : ((l2 ++ wJS 22) ++ [97 + snm S]).length = l2.length + 7 := by
              rw [List.length_append, List.length_append, l22]
              rfl
            refine xo_g (MS_w H m51).2.2 (xo_b (app_char (MS_p m51) (x := 32) (by omega) (by rw [ln51]; omega)) (fun v52 h53 y => ?_))
            obtain ⟨rfl, p53⟩ := y
            have m53 := MS_a H m51 p53
            refine xo_g (MS_w H m53).2.2 (xo_b (app_int (MS_p m53) (v := g) (by omega) (by rw [List.length_append, ln51]; simp only [List.length_singleton]; omega)) (fun v54 h55 y => ?_))
            obtain ⟨-, p55⟩ := y
            have m55 := MS_a H m53 p55
            obtain ⟨lc, elc⟩ : ∃ lc, lc = (((l2 ++ wJS 22) ++ [97 + snm S]) ++ [32]) ++ [48 + g] := ⟨_, rfl⟩
            have lnc : lc.length = l2.length + 9 := by
              rw [elc, List.length_append, List.length_append, ln51]
              rfl
            rw [← elc] at m55
            obtain ⟨cj, ecj⟩ : ∃ cj : Nat → Nat, cj = fun a => sgt S u (sgt S u g a) (sgv S u g) := ⟨_, rfl⟩
            have cjl : ∀ a, a < sgn S u → cj a < sgn S u := fun a ha => by rw [ecj]; exact GU.cl (GU.cl hgu ha) (GU.iv hgu)
            refine xlp_inv (Po := fun m => xo m Q) (fun a st h' => st = nI a ∧ MS h0 c d s n M z (gb u) (gb lo) h' k (dSt (dN S u lo) f (fun y x => if y = g ∧ x < a then cj x else e y x)) (22 + 20 * g + 4 + 2 * a) ((22 + 20 * g + 4 + 2 * a) * 1840) (dgT cj lc a)) (sgn S u) (by omega) (fun a st h56 ag2 ha J2 again2 => ?_) ⟨rfl, MS.more ⟨m55.1, m55.2.1, m55.2.2.1, lM_eq m55.2.2.2 ⟨rfl, rfl, rfl, rfl, rfl, rfl⟩ (fun _ _ => rfl) (fun y x _ _ => if_neg (fun q => absurd q.2 (Nat.not_lt_zero _)))⟩ (by omega) (by omega)⟩
            obtain ⟨rfl, m56⟩ := J2
            have M56 := m56.2.2.2
            refine xo_g M56.k (xo_n M56.r5 (xo_g M56.kb ?_))
            by_cases ea : a = sgn S u
            · refine xo_t (by rw [M56.nb, ea]; exact Int32.le_refl _) ?_
              rw [nI_s]
              have n1 : nuS (mS S u lo) (snm S) = sgn S u := by rw [mS_nu, if_pos rfl]
              have n2 : nlS2 (mS S u lo) (snm S) = sgn S lo := by rw [mS_nl, if_pos rfl]
              have r56 := RD_act r37 W1 N1 (m := snm S) (g := g) (Nat.lt_succ_self (snm S)) (by rw [n2]; exact hlg) (d37 g (Nat.le_refl _) (by omega)) (f := cj) (fun a ha => by rw [n1] at ha ⊢; exact cjl a ha)
              rw [n1, ← elc] at r56
              rw [ea] at m56
              obtain ⟨t1, t2, t3, t4⟩ := at37
              refine again hlg _ _ ⟨rfl, _, _, _, _, _, m56.more (by omega) (by omega), r56, ⟨t1, fun y x hy hx => ?_, fun m em => ⟨(t3 m em).1, ?_⟩, t4⟩, fun x hx hx2 => ?_, by omega, by rw [dgT_len, lnc]; omega, fun q => absurd q (Nat.succ_ne_zero _), fun _ => fits⟩
              · show (if snm S = snm S ∧ y = g then cj x else tac T2 (snm S) y x) = if y = g ∧ x < sgn S u then cj x else e y x
                by_cases ey : y = g
                · rw [if_pos ⟨rfl, ey⟩, if_pos ⟨ey, hx⟩]
                · rw [if_neg (fun q => ey q.2), if_neg (fun q => ey q.1)]
                  exact t2 y x hy hx
              · refine Eq.trans (funext fun y => funext fun x => ?_) (t3 m em).2
                exact if_neg (fun q => em q.1)
              · show mb (if snm S = snm S then D2 (snm S) ||| sh g else D2 (snm S)) x = false
                rw [if_pos rfl, mb_or, d37 x (by omega) hx2, mb_sh (by omega), decide_eq_false (by omega)]
                rfl
            · have hla : a < sgn S u := by omega
              have hcv := cjl a hla
              refine xo_f (by rw [M56.nb]; exact nI_ge (show a < sgn S u from hla) (by show sgn S u < 2 ^ 31; omega)) (xo_g M56.k (xo_n M56.r4 ?_))
              have hlg' : g < dnl (dSt (dN S u lo) f (fun y x => if y = g ∧ x < a then cj x else e y x)) := hlg
              have hla' : a < dnu (dSt (dN S u lo) f (fun y x => if y = g ∧ x < a then cj x else e y x)) := hla
              rw [lrow M56.a.1 M56.l8 hlg']
              refine xo_g M56.k (xo_eb (show FX11_conjugate E M (nI g) (nI a) h56 = xv (nI (cj a)) h56 from by rw [ecj]; exact lconj_v M56 (show g < sgn S u from hgu) hla') ?_)
              rw [lwr M56.a.1 hlg' hla' M56.u8]
              have m62 := MS_ac H m56 hlg' hla' (show cj a < sgn S u from hcv)
              generalize yi h56 (M + 2 + 1 + g) a (nI (cj a)) = h62 at *
              obtain ⟨w62, r62, s62⟩ := MS_w H m62
              refine xo_g w62.k (xo_n r62 (xo_g s62 (xo_b (app_char (MS_p m62) (x := 32) (by omega) (by rw [dgT_len]; omega)) (fun v64 h65 y => ?_))))
              obtain ⟨rfl, p65⟩ := y
              have m65 := MS_a H m62 p65
              have M65 := m65.2.2.2
              refine xo_g M65.k (xo_n M65.r4 ?_)
              rw [lrow M65.a.1 M65.l8 hlg']
              refine xo_g (lS_c M65.a.1 hlg' hla' M65.u8) (xo_g (MS_w H m65).2.2 ?_)
              rw [show xi h65 (M + 2 + 1 + g) (nI a).toNatClampNeg = nI (cj a) from (lV_v M65.a hlg' hla' M65.u8).trans (congrArg nI (if_pos ⟨rfl, rfl⟩))]
              refine xo_b (app_int (MS_p m65) (v := cj a) (by omega) (by rw [List.length_append, dgT_len]; simp only [List.length_singleton]; omega)) (fun v68 h69 y => ?_)
              obtain ⟨-, p69⟩ := y
              have m69 := MS_a H m65 p69
              rw [nI_s]
              refine again2 hla _ _ ⟨rfl, MS.more ⟨m69.1, m69.2.1, m69.2.2.1, lM_eq m69.2.2.2 ⟨rfl, rfl, rfl, rfl, rfl, rfl⟩ (fun _ _ => rfl) (fun y x _ _ => ?_)⟩ (by omega) (by omega)⟩
              show (if y = g ∧ x < a + 1 then cj x else e y x) = if y = g ∧ x = a then cj a else if y = g ∧ x < a then cj x else e y x
              by_cases e1 : y = g ∧ x = a
              · rw [if_pos e1, if_pos ⟨e1.1, by omega⟩, e1.2]
              · rw [if_neg e1]
                by_cases e2 : y = g ∧ x < a
                · rw [if_pos e2, if_pos ⟨e2.1, by omega⟩]
                · rw [if_neg e2, if_neg (fun q => by omega)]
          · exact xo_f v0 (K' _ rfl)
end WAC
