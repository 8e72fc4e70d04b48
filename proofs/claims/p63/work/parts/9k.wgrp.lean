/-! The World made: its groups. -/
set_option linter.unusedVariables false
section WGR
variable {E : XG} {h h' h0 : XH} {X c : Nat} {gb mb ab : Nat → Nat} {S : SD} {T T' : ST} {d s n k : Nat}
theorem lV_k {G n k a : Nat} {t : Nat → Nat → Nat} (q : lV h G n k t) (a1 : G ≤ a) (a2 : a ≤ G + n) : xk h a = 18 ∨ xk h a = 12 := by
  by_cases e : a = G
  · rw [e]; exact Or.inl q.1.1.1
  · have := (q.1.2 (a - G - 1) (by omega)).2.1
    rw [show G + 1 + (a - G - 1) = a by omega] at this
    exact Or.inr this
theorem mReg_k {M U L a : Nat} {dd : MD} (m : lM h M U L dd) (q : mReg M U L dd a) : xk h a = 22 ∨ xk h a = 18 ∨ xk h a = 12 := by
  rcases q with q | q | q
  · exact Or.inr (lV_k m.u q.1 q.2)
  · exact Or.inr (lV_k m.l q.1 q.2)
  · by_cases e0 : a = M
    · rw [e0]; exact Or.inl m.k
    · by_cases e1 : a = M + 1
      · rw [e1]; exact Or.inr (Or.inr m.kb)
      · exact Or.inr (lV_k m.a (by omega) q.2)
/-- the World stays where only builders and bytes are written -/
theorem lW_sk (w : lW h c gb mb ab S T) (o : lO c gb mb ab S X) (e : ∀ a, c ≤ a → a < X → ¬ xk h a = 24 → ¬ xk h a = 11 → smC a h h') : lW h' c gb mb ab S T := by
  have o4 := o.2.2.2
  have e' : ∀ a, c ≤ a → a < X → (xk h a = 22 ∨ xk h a = 18 ∨ xk h a = 12 ∨ xk h a = 23 ∨ xk h a = 19 ∨ xk h a = 20 ∨ xk h a = 26 ∨ xk h a = 10) → smC a h h' := fun a a1 a2 q => e a a1 a2 (by omega) (by omega)
  have w1 := w.1
  obtain ⟨⟨q1, ⟨q2, q3, q4, q5⟩, q6, q7, q8⟩, ⟨p1, p2⟩, ⟨p3, p4⟩, ⟨p5, p6⟩, p7, p8⟩ := w1
  have e0 := e' c (by omega) (by omega) (by omega)
  have e3 := e' (c + 3) (by omega) (by omega) (by omega)
  have e4 := e' (c + 4) (by omega) (by omega) (by omega)
  have e5 := e' (c + 5) (by omega) (by omega) (by omega)
  have e6 := e' (c + 6) (by omega) (by omega) (by omega)
  refine ⟨⟨⟨e0.1.1.trans q1, ⟨(e0.2.2.2 _).trans q2, (e0.2.2.2 _).trans q3, (e0.2.2.2 _).trans q4, (e0.2.2.2 _).trans q5⟩, (e0.2.1 _).trans q6, (e0.2.1 _).trans q7, (e0.2.1 _).trans q8⟩, ⟨e3.1.1.trans p1, e3.1.2.trans p2⟩, ⟨e4.1.1.trans p3, e4.1.2.trans p4⟩, ⟨e5.1.1.trans p5, e5.1.2.trans p6⟩, e6.1.1.trans p7, e6.1.2.trans p8⟩, fun g hg => ⟨(e3.2.2.2 _).trans (w.2.1 g hg).1, lV_sm (w.tb hg) (fun a a1 a2 => ?_)⟩, fun m hm => ?_, fun a ha => ?_, fun k hk => (e6.2.1 _).trans (w.ac hk), w.ws, w.wt⟩
  · have := o.1 g hg
    have kk := lV_k (w.tb hg) a1 a2
    exact e' a (by omega) (by omega) (by omega)
  · have o3 := o.2.1 m hm
    have M := w.md hm
    have em := e' (mb m) (by omega) (by omega) (Or.inl M.k)
    exact ⟨(e4.2.2.2 _).trans (w.2.2.1 m hm).1, ⟨(em.2.1 _).trans (w.hi hm), (em.2.1 _).trans (w.lo hm)⟩, lM_sm M (fun a q => by
      have r := mReg_in o w.ws hm q
      have kk := mReg_k M q
      exact e' a r.1 r.2 (by omega))⟩
  · have o3 := o.2.2.1 a ha
    have A := w.ar ha
    exact ⟨(e5.2.2.2 _).trans (w.2.2.2.1 a ha).1, lA_sm A (e' _ (by omega) (by omega) (by have := A.1.1; omega)) (e' _ (by omega) (by omega) (by have := A.2.1.1.1; omega)) (e' _ (by omega) (by omega) (by have := A.2.2.1.1; omega))⟩
/-- the World in the making: what is told so far is l, in nl lines -/
def WC (h : XH) (c : Nat) (gb mb ab : Nat → Nat) (S : SD) (T : ST) (d s n k : Nat) (l : List Nat) (nl : Nat) (Dd : Nat → Int32) : Prop := (lW h c gb mb ab S T ∧ lO c gb mb ab S (xt h)) ∧ (DR h d s n k ∧ d < c ∧ s < d) ∧ (xr h c 0 = some (c + 1) ∧ ∃ A, SB h (c + 1) A l ∧ c < A) ∧ RD l nl S T Dd ∧ NM3 S
/-- the cells that the text's builder may write -/
def tD (h0 : XH) (c a : Nat) : Prop := c < a ∧ (xk h0 a = 24 ∨ xk h0 a = 11)
theorem lO_up (o : lO c gb mb ab S X) {X' : Nat} (q : X ≤ X') : lO c gb mb ab S X' := by
  obtain ⟨o1, o2, o3, o4⟩ := o
  exact ⟨fun g hg => ⟨(o1 g hg).1, by have := (o1 g hg).2.1; omega, (o1 g hg).2.2⟩, fun m hm => ⟨(o2 m hm).1, by have := (o2 m hm).2.1; omega, (o2 m hm).2.2⟩, fun a ha => ⟨(o3 a ha).1, by have := (o3 a ha).2.1; omega, (o3 a ha).2.2⟩, by omega⟩
/-- what stays of it while the text grows and new cells are made -/
theorem WC_t {cc uu : Nat} (w : lW h c gb mb ab S T) (o : lO c gb mb ab S (xt h)) (dr : DR h d s n k ∧ d < c ∧ s < d) (r0 : xr h c 0 = some (c + 1)) (g : Gr (tD h c) cc uu h h') : lW h' c gb mb ab S T ∧ (DR h' d s n k ∧ d < c ∧ s < d) ∧ xr h' c 0 = some (c + 1) := by
  have o4 := o.2.2.2
  have kc := w.k
  refine ⟨lW_sk w o (fun a a1 a2 a3 a4 => g.s a2 (fun z => by unfold tD at z; omega)), ⟨DR_sm dr.1 (g.s (by omega) (fun z => by unfold tD at z; omega)) (g.s (by omega) (fun z => by unfold tD at z; omega)), dr.2⟩, ((g.s (a := c) (by omega) (fun z => by unfold tD at z; omega)).2.2.2 0).trans r0⟩
theorem next_k {hi : Nat} {e e0 : Int32} {lo : Nat} (q : DR h d s n k) (hk : k < 1000000) (h0 : e0 = nI lo) (h1 : e = nI hi) (hl : lo ≤ hi) (h2 : hi < 1000) : xo (FX10_next E d e0 e h) (fun v h' => (∃ x, v = nI x ∧ lo ≤ x ∧ x ≤ hi) ∧ h' = yi h d 1 (nI (k + 1))) := by
  subst h0; subst h1
  exact next_o q (by omega) hl h2
/-- a draw -/
theorem WC_d {l : List Nat} {nl : Nat} {Dd : Nat → Int32} (w : WC h c gb mb ab S T d s n k l nl Dd) : WC (yi h d 1 (nI (k + 1))) c gb mb ab S T d s n (k + 1) l nl Dd := by
  obtain ⟨⟨w1, w2⟩, ⟨w3, w4, w5⟩, ⟨w6, A, w7, w8⟩, w9, w10⟩ := w
  have sm : ∀ a, ¬ a = d → smC a h (yi h d 1 (nI (k + 1))) := fun a q => smC_yi q
  have kA := w7.ka
  have kd := w3.1.1
  obtain ⟨⟨q1, q2, q3, q4⟩, ⟨q5, q6, q7⟩, ⟨q8, q9⟩, q10, q11⟩ := w7
  have nA : ¬ A = d := by omega
  refine ⟨⟨lW_sm w1 w2 (fun a a1 a2 => sm a (by omega)), w2⟩, ⟨⟨⟨w3.1.1, w3.1.2.1, xi_yi1 _ _ _ _⟩, w3.2⟩, w4, w5⟩, ⟨w6, A, ⟨⟨q1, q2, (xi_yi2 _ _ (Or.inl (by omega))).trans q3, (xi_yi2 _ _ (Or.inl (by omega))).trans q4⟩, ⟨q5, q6, q7⟩, ⟨q8, q9⟩, fun i hi => ⟨(xi_yi2 _ _ (Or.inl nA)).trans (q10 i hi).1, (q10 i hi).2⟩, fun i hi => ?_⟩, w8⟩, w9, w10⟩
  rw [xi_yi2 _ _ (Or.inl nA)]
  exact q11 i hi
/-- a group more -/
theorem lW_addg {G : Nat} {g : GR} (w : lW h c gb mb ab S T) (o : lO c gb mb ab S (xt h)) (m0 : snm S = 0) (a0 : sna S = 0) (h6 : sng S < 6) (hg : gaB g) (q : lT h G g.1 g.2.1) (hG : c + 6 < G) (hG2 : G + g.1 < xt h) : lW (yi (yr h (c + 3) (sng S) (some G)) c 5 (nI (sng S + 1))) c (fun k => if k = sng S then G else gb k) mb ab (gS S g) T ∧ lO c (fun k => if k = sng S then G else gb k) mb ab (gS S g) (xt h) := by
  have W := w.ws
  have o4 := o.2.2.2
  obtain ⟨⟨⟨q1, q2, q6, q7, q8⟩, p1, p2⟩, t1, t2, t3, t4, t5, t6⟩ := w
  have sm : ∀ a, ¬ a = c → ¬ a = c + 3 → smC a h (yi (yr h (c + 3) (sng S) (some G)) c 5 (nI (sng S + 1))) := fun a a1 a2 => smC_t (smC_yr a2) (smC_yi a1)
  refine ⟨⟨⟨⟨q1, ⟨?_, ?_, ?_, ?_⟩, xi_yi1 _ _ _ _, (xi_yi2 _ _ (Or.inr (by decide))).trans q7, (xi_yi2 _ _ (Or.inr (by decide))).trans q8⟩, p1, p2⟩, fun k hk => ?_, fun m hm => ?_, fun a ha => ?_, fun j hj => ((sm (c + 6) (by omega) (by omega)).2.1 _).trans (t4 j hj), WS_g W h6 hg, WT_g W t6⟩, fun k hk => ?_, fun m hm => ?_, fun a ha => ?_, by omega⟩
  · rw [xr_yi, xr_yr2 _ _ (Or.inl (by omega))]; exact q2.1
  · rw [xr_yi, xr_yr2 _ _ (Or.inl (by omega))]; exact q2.2.1
  · rw [xr_yi, xr_yr2 _ _ (Or.inl (by omega))]; exact q2.2.2.1
  · rw [xr_yi, xr_yr2 _ _ (Or.inl (by omega))]; exact q2.2.2.2
  · have hk : k < sng S + 1 := hk
    by_cases e : k = sng S
    · subst e
      refine ⟨?_, ?_⟩
      · show xr _ (c + 3) (sng S) = some (if sng S = sng S then G else gb (sng S))
        rw [if_pos rfl, xr_yi, xr_yr1]
      · show lT _ (if sng S = sng S then G else gb (sng S)) (if sng S = sng S then g else S.2.1 (sng S)).1 (if sng S = sng S then g else S.2.1 (sng S)).2.1
        rw [if_pos rfl, if_pos rfl]
        exact lV_sm q (fun a a1 a2 => sm a (by omega) (by omega))
    · have o1 := o.1 k (by omega)
      refine ⟨?_, ?_⟩
      · show xr _ (c + 3) k = some (if k = sng S then G else gb k)
        rw [if_neg e, xr_yi, xr_yr2 _ _ (Or.inr e)]
        exact (t1 k (by omega)).1
      · show lT _ (if k = sng S then G else gb k) (if k = sng S then g else S.2.1 k).1 (if k = sng S then g else S.2.1 k).2.1
        rw [if_neg e, if_neg e]
        exact lV_sm (t1 k (by omega)).2 (fun a a1 a2 => sm a (by omega) (by omega))
  · have hm : m < snm S := hm
    omega
  · have ha : a < sna S := ha
    omega
  · have hk : k < sng S + 1 := hk
    show c + 6 < (if k = sng S then G else gb k) ∧ (if k = sng S then G else gb k) + (if k = sng S then g else S.2.1 k).1 < xt h ∧ (∀ m, m < snm S → (if k = sng S then G else gb k) + (if k = sng S then g else S.2.1 k).1 < mb m) ∧ ∀ a, a < sna S → (if k = sng S then G else gb k) + (if k = sng S then g else S.2.1 k).1 < ab a
    by_cases e : k = sng S
    · rw [if_pos e, if_pos e]
      exact ⟨hG, hG2, fun m hm => by omega, fun a ha => by omega⟩
    · rw [if_neg e, if_neg e]
      exact o.1 k (by omega)
  · have hm : m < snm S := hm
    omega
  · have ha : a < sna S := ha
    omega
theorem SB_sm {b A : Nat} {l : List Nat} (q : SB h b A l) (e1 : smC b h h') (e2 : smC A h h') (t : xt h ≤ xt h') : SB h' b A l := by
  obtain ⟨⟨q1, q2, q3, q4⟩, ⟨q5, q6, q7⟩, ⟨q8, q9⟩, q10, q11⟩ := q
  refine ⟨⟨e1.1.1.trans q1, (e1.2.2.2 _).trans q2, (e1.2.1 _).trans q3, (e1.2.1 _).trans q4⟩, ⟨e2.1.1.trans q5, by rw [e2.1.2]; exact q6, by rw [e2.1.2]; exact q7⟩, ⟨by omega, by omega⟩, fun i hi => ⟨(e2.2.1 _).trans (q10 i hi).1, (q10 i hi).2⟩, fun i hi => ?_⟩
  rw [e2.2.1]
  rw [e2.1.2] at hi
  exact q11 i hi
theorem AP_n {D : Nat → Prop} {b cc uu c1 u1 : Nat} {l : List Nat} (p : AP D cc uu h0 b h l) (g : Gr nD c1 u1 h h') : AP D (cc + c1) (uu + u1) h0 b h' l := by
  obtain ⟨A, a1, a2, a3⟩ := p
  exact ⟨A, SB_sm a1 (g.s a1.2.2.1.1 (fun z => z)) (g.s a1.2.2.1.2 (fun z => z)) g.t, a2, Gr_trans a3 g (fun _ z => z) (fun _ z _ => z.elim)⟩
/-- the builder, as its letters begin to grow -/
theorem WC_p {l : List Nat} {nl : Nat} {Dd : Nat → Int32} (w : WC h c gb mb ab S T d s n k l nl Dd) : AP (tD h c) 0 0 h (c + 1) h l := by
  obtain ⟨-, -, ⟨-, A, w7, w8⟩, -⟩ := w
  exact ⟨A, w7, ⟨fun _ => ⟨by omega, Or.inl w7.k⟩, fun _ => ⟨w8, Or.inr w7.ka⟩⟩, Gr_refl _ h⟩
theorem CU_gr {D : Nat → Prop} {cc uu : Nat} (g : Gr D cc uu h h') : CU cc uu h h' := g.1
/-- what stands while the letters grow -/
theorem WC_a {l l' : List Nat} {nl cc uu : Nat} {Dd : Nat → Int32} (w : WC h c gb mb ab S T d s n k l nl Dd) (p : AP (tD h c) cc uu h (c + 1) h' l') : lW h' c gb mb ab S T ∧ (DR h' d s n k ∧ d < c ∧ s < d) ∧ xr h' c 0 = some (c + 1) ∧ xk h' (c + 1) = 24 ∧ xt h ≤ xt h' ∧ (∃ A, SB h' (c + 1) A l' ∧ c < A) ∧ CU cc uu h h' := by
  obtain ⟨A, a1, a2, a3⟩ := p
  obtain ⟨⟨w1, w2⟩, w3, ⟨w6, _⟩, -⟩ := w
  obtain ⟨q1, q2, q3⟩ := WC_t w1 w2 w3 w6 a3
  have o4 := w2.2.2.2
  refine ⟨q1, q2, q3, a1.k, a3.t, ⟨A, a1, ?_⟩, a3.1⟩
  rcases Nat.lt_or_ge A (xt h) with z | z
  · exact (a2.2 z).1
  · omega
/-- a group more, told -/
theorem WC_addg {G : Nat} {g : GR} {l : List Nat} {nl : Nat} {Dd : Nat → Int32} (w : lW h c gb mb ab S T) (o : lO c gb mb ab S (xt h)) (dr : DR h d s n k ∧ d < c ∧ s < d) (r0 : xr h c 0 = some (c + 1)) (sb : ∃ A, SB h (c + 1) A l ∧ c < A) (m0 : snm S = 0) (a0 : sna S = 0) (h6 : sng S < 6) (hg : gaB g) (q : lT h G g.1 g.2.1) (hG : c + 6 < G) (hG2 : G + g.1 < xt h) (rd : RD l nl (gS S g) T Dd) (N : NM3 S) : WC (yi (yr h (c + 3) (sng S) (some G)) c 5 (nI (sng S + 1))) c (fun k => if k = sng S then G else gb k) mb ab (gS S g) T d s n k l nl Dd := by
  obtain ⟨A, sb1, sb2⟩ := sb
  have sm : ∀ a, ¬ a = c → ¬ a = c + 3 → smC a h (yi (yr h (c + 3) (sng S) (some G)) c 5 (nI (sng S + 1))) := fun a a1 a2 => smC_t (smC_yr a2) (smC_yi a1)
  have kc := w.k
  have k3 := w.k3.1
  have kA := sb1.ka
  refine ⟨lW_addg w o m0 a0 h6 hg q hG hG2, ⟨DR_sm dr.1 (sm d (by omega) (by omega)) (sm s (by omega) (by omega)), dr.2⟩, ⟨?_, A, SB_sm sb1 (sm _ (by omega) (by omega)) (sm A (fun z => by rw [z] at kA; omega) (fun z => by rw [z] at kA; omega)) (Nat.le_refl _), sb2⟩, rd, NM3_g N⟩
  rw [xr_yi, xr_yr2 _ _ (Or.inl (by omega))]
  exact r0
theorem wgroup_o {l : List Nat} {nl : Nat} {Dd : Nat → Int32} (w : WC h c gb mb ab S T d s n k l nl Dd) (hk : k + 2 < 1000000) (m0 : snm S = 0) (a0 : sna S = 0) (h6 : sng S < 3) (hl : l.length ≤ 800) : xo (FX12_group E c d h) (fun _ h' => ∃ gb' S' l', WC h' c gb' mb ab S' T d s n (k + 2) l' (nl + 1) Dd ∧ (sng S' = sng S + 1 ∧ snm S' = 0 ∧ sna S' = 0) ∧ l'.length ≤ l.length + 23 ∧ CU 20 8000 h h') := by
  unfold FX12_group
  refine xo_g w.2.1.1.1.1 (xo_b (next_k (E := E) w.2.1.1 (by omega) (lo := 0) (hi := 4) rfl rfl (by omega) (by omega)) (fun v1 h2 z => ?_))
  obtain ⟨⟨y, rfl, -, hy⟩, e2⟩ := z
  have w2 := WC_d w
  rw [← e2] at w2
  have c2 : CU 0 0 h h2 := by rw [e2]; exact CU.yi _ _ _
  refine xo_g w2.2.1.1.1.1 (xo_b (next_k (E := E) w2.2.1.1 (by omega) (lo := 1) (hi := 6) rfl rfl (by omega) (by omega)) (fun v3 h4 z => ?_))
  obtain ⟨⟨v, rfl, v1, v6⟩, e4⟩ := z
  have w4 := WC_d w2
  rw [← e4] at w4
  have c4 : CU 0 0 h h4 := c2.trans (show CU 0 0 h2 h4 by rw [e4]; exact CU.yi _ _ _)
  have l15 : (wJS 15).length = 8 := by decide +kernel
  have l16 : (wJS 16).length = 11 := by decide +kernel
  have l17 : (wJS 17).length = 14 := by decide +kernel
  have l18 : (wJS 18).length = 11 := by decide +kernel
  have l19 : (wJS 19).length = 8 := by decide +kernel
  have rd := w4.2.2.2.1
  have N := w4.2.2.2.2
  have W := w4.1.1.ws
  refine xo_g w4.1.1.k (xo_n w4.2.2.1.1 (xo_g (WC_a w4 (WC_p w4)).2.2.2.1 (xo_b (app_str (WC_p w4) (i := 15) (by decide) (by omega)) (fun v6' h7 z => ?_))))
  obtain ⟨rfl, p7⟩ := z
  obtain ⟨a1, a2, a3, a4, -⟩ := WC_a w4 p7
  refine xo_g a1.k (xo_g a4 ?_)
  rw [a1.i5, let26 _ (by omega)]
  refine xo_b (app_char p7 (x := 97 + sng S) (by omega) (by rw [List.length_append]; omega)) (fun v8 h9 z => ?_)
  obtain ⟨rfl, p9⟩ := z
  obtain ⟨b1, b2, b3, b4, b5, -⟩ := WC_a w4 p9
  have ln9 : ((l ++ wJS 15) ++ [97 + sng S]).length = l.length + 9 := by
    rw [List.length_append, List.length_append, l15]
    rfl
  -- the end: the table put, the count raised
  refine xo_jk (R := fun h10 => ∃ h48 G g l', h10 = yr h48 (c + 3) (sng S) (some G) ∧ AP (tD h4 c) 18 7800 h4 (c + 1) h48 l' ∧ gaB g ∧ lT h48 G g.1 g.2.1 ∧ (c + 6 < G ∧ G + g.1 < xt h48) ∧ RD l' (nl + 1) (gS S g) T Dd ∧ l'.length ≤ l.length + 23) (fun h10 z => ?_) (fun j K => ?_)
  · obtain ⟨h48, G, g, l', rfl, p48, hg, q48, ⟨G1, G2⟩, rd', hl'⟩ := z
    obtain ⟨d1, d2, d3, d4, d5, d6, d7⟩ := WC_a w4 p48
    have kc : xk (yr h48 (c + 3) (sng S) (some G)) c = 23 := d1.k
    refine xo_g kc (xo_g kc ?_)
    rw [xi_yr, d1.i5, nI_s]
    refine xo_lt (xo_v ⟨_, gS S g, l', WC_addg d1 (lO_up w4.1.2 d5) d2 d3 d6 m0 a0 (by omega) hg q48 G1 G2 rd' N, ⟨rfl, m0, a0⟩, hl', ?_⟩)
    exact (c4.trans (d7.trans (CU.yi (h := yr h48 (c + 3) (sng S) (some G)) _ _ _))).more (by omega) (by omega)
  · have o4 := w4.1.2.2.2.2
    have b19 : ∀ {h48 : XH}, lW h48 c gb mb ab S T → ∀ {G n9 : Nat} {t : Nat → Nat → Nat}, lT h48 G n9 t → xk h48 (c + 3) = 19 ∧ xk h48 G = 18 ∧ xin (nI (sng S)) (xn h48 (c + 3)) := fun wq _ _ _ tq => ⟨wq.k3.1, tq.1.1.1, by rw [wq.k3.2]; exact xin_nI (by omega) (by omega)⟩
    by_cases y3 : y = 3
    · refine xo_t (by rw [y3]; rfl) (xo_g b1.k (xo_n b3 (xo_g b4 (xo_b (app_str p9 (i := 16) (by decide) (by omega)) (fun v44 h45 z => ?_)))))
      obtain ⟨-, p45⟩ := z
      obtain ⟨f1, f2, f3, f4, f5, -⟩ := WC_a w4 p45
      refine xo_g f1.k (xo_n f1.r1 (xo_g f1.k (xo_b (ldih_o (Gr_refl nD h45)) (fun v47 h48 z => ?_))))
      obtain ⟨rfl, t48, q48, g48⟩ := z
      have p48 := AP_n p45 g48
      obtain ⟨k1, -⟩ := WC_a w4 p48
      rw [f1.i5]
      refine xo_g (b19 k1 q48) ?_
      rw [xz_nI (by omega)]
      refine xo_lt (K _ ⟨h48, xt h45, gDih 3, _, rfl, p48.more (by omega) (by omega), gDih_ga 3 (by omega) (by omega), q48, ⟨by omega, by show xt h45 + 6 < xt h48; omega⟩, RD_dih rd W N (by omega), by rw [List.length_append, ln9, l16]; omega⟩)
    · refine xo_f (fun z => y3 ((nI_eq (by omega) (by omega)).mp z)) ?_
      refine xo_jk (R := fun h12 => h12 = h9) (fun h12 z => ?_) (fun j2 K2 => ?_)
      · subst z
        refine xo_jk (R := fun h13 => h13 = h12) (fun h13 z => ?_) (fun j3 K3 => ?_)
        · subst z
          refine xo_g b1.k (xo_n b3 (xo_g b4 (xo_b (app_str p9 (i := 19) (by decide) (by omega)) (fun v15 h16 z => ?_))))
          obtain ⟨rfl, p16⟩ := z
          obtain ⟨-, -, -, f4, -⟩ := WC_a w4 p16
          refine xo_g f4 (xo_b (app_int p16 (v := v) (by omega) (by rw [List.length_append]; omega)) (fun v17 h18 z => ?_))
          obtain ⟨-, p18⟩ := z
          obtain ⟨f1, f2, f3, f4, f5, -⟩ := WC_a w4 p18
          refine xo_g f1.k (xo_n f1.r1 (xo_g f1.k (xo_b (lcyc_o (Gr_refl nD h18) (show 0 < v by omega) (by omega)) (fun v20 h21 z => ?_))))
          obtain ⟨rfl, t48, q48, g48⟩ := z
          have p48 := AP_n p18 g48
          obtain ⟨k1, -⟩ := WC_a w4 p48
          have vv : v * v ≤ 36 := Nat.mul_le_mul v6 v6
          rw [f1.i5]
          refine xo_g (b19 k1 q48) ?_
          rw [xz_nI (by omega)]
          refine xo_lt (K _ ⟨h21, xt h18, gCyc v, _, rfl, p48.more (by omega) (by omega), gCyc_ga v (by omega) (by omega), q48, ⟨by omega, by show xt h18 + v < xt h21; omega⟩, RD_cyc rd W N (by omega) v1 (by omega), by rw [List.length_append, List.length_append, ln9, l19]; simp only [List.length_singleton]; omega⟩)
        · by_cases y2 : y = 2
          · refine xo_t (by rw [y2]; rfl) ?_
            by_cases vq : v = 1
            · refine xo_t (by rw [vq]; rfl) (xo_g b1.k (xo_n b3 (xo_g b4 (xo_b (app_str p9 (i := 18) (by decide) (by omega)) (fun v24 h25 z => ?_)))))
              obtain ⟨-, p25⟩ := z
              obtain ⟨f1, f2, f3, f4, f5, -⟩ := WC_a w4 p25
              refine xo_g f1.k (xo_n f1.r1 (xo_g f1.k (xo_b (lqua_o (Gr_refl nD h25)) (fun v27 h28 z => ?_))))
              obtain ⟨q1, q2, q48, g48⟩ := z
              have p48 := AP_n p25 g48
              obtain ⟨k1, -⟩ := WC_a w4 p48
              rw [f1.i5]
              refine xo_g (b19 k1 q48) ?_
              rw [xz_nI (by omega)]
              exact xo_lt (K _ ⟨h28, v27, gQua, _, rfl, p48.more (by omega) (by omega), gQua_ga, q48, ⟨by omega, by show v27 + 8 < xt h28; omega⟩, RD_qua rd W N (by omega), by rw [List.length_append, ln9, l18]; omega⟩)
            · exact xo_f (fun z => vq ((nI_eq (by omega) (by omega)).mp z)) (K3 _ rfl)
          · exact xo_f (fun z => y2 ((nI_eq (by omega) (by omega)).mp z)) (K3 _ rfl)
      · by_cases y4 : y = 4
        · refine xo_t (by rw [y4]; rfl) (xo_g b1.k ?_)
          rw [b1.i5]
          by_cases g0 : sng S = 0
          · exact xo_t (by rw [g0]; exact Int32.le_refl _) (K2 _ rfl)
          · have g0' : 0 < sng S := by omega
            refine xo_f (by rw [li0, nI_leP (by omega) (by omega)]; omega) (xo_g b1.k (xo_n b1.r1 ?_))
            have r0 := fun {hx : XH} (wx : lW hx c gb mb ab S T) (f : Nat → XP Unit) => lgrow (α := Unit) wx g0' f
            rw [show (xg (xk h9 (c + 3) = 19 ∧ xin 0 (xn h9 (c + 3))) : XP Unit → XP Unit) = xg (xk h9 (c + 3) = 19 ∧ xin (nI 0) (xn h9 (c + 3))) from rfl, show xr h9 (c + 3) (0 : Int32).toNatClampNeg = xr h9 (c + 3) (nI 0).toNatClampNeg from rfl, r0 b1]
            have tb := b1.tb g0'
            refine xo_g tb.1.1.1 ?_
            rw [tb.1.1.2, ofNat_nI]
            have gw := W.2.1 0 g0'
            by_cases s3 : 3 ≤ sgn S 0
            · exact xo_t (by rw [li3, nI_leP (by omega) (by omega)]; exact s3) (K2 _ rfl)
            · refine xo_f (by rw [li3, nI_leP (by omega) (by omega)]; exact s3) (xo_g b1.k (xo_n b3 (xo_g b4 (xo_b (app_str p9 (i := 17) (by decide) (by omega)) (fun v33 h34 z => ?_)))))
              obtain ⟨-, p34⟩ := z
              obtain ⟨f1, f2, f3, f4, f5, -⟩ := WC_a w4 p34
              have h8 : sgn S 0 * sgn S 0 ≤ 8 := by
                have : sgn S 0 * sgn S 0 ≤ 2 * 2 := Nat.mul_le_mul (by omega) (by omega)
                omega
              refine xo_g f1.k (xo_n f1.r1 (xo_g f1.k (xo_g f1.k (xo_n f1.r1 ?_))))
              rw [show (xg (xk h34 (c + 3) = 19 ∧ xin 0 (xn h34 (c + 3))) : XP Unit → XP Unit) = xg (xk h34 (c + 3) = 19 ∧ xin (nI 0) (xn h34 (c + 3))) from rfl, show xr h34 (c + 3) (0 : Int32).toNatClampNeg = xr h34 (c + 3) (nI 0).toNatClampNeg from rfl, r0 f1]
              refine xo_g f1.k (xo_n f1.r1 ?_)
              rw [show (xg (xk h34 (c + 3) = 19 ∧ xin 0 (xn h34 (c + 3))) : XP Unit → XP Unit) = xg (xk h34 (c + 3) = 19 ∧ xin (nI 0) (xn h34 (c + 3))) from rfl, show xr h34 (c + 3) (0 : Int32).toNatClampNeg = xr h34 (c + 3) (nI 0).toNatClampNeg from rfl, r0 f1]
              have o1 := w4.1.2.1 0 g0'
              have tb34 := f1.tb g0'
              refine xo_b (lpro_o (Gr_refl nD h34) tb34 tb34 gw.1.1 gw.1.1 h8 (by omega) (by omega)) (fun v40 h41 z => ?_)
              obtain ⟨rfl, t48, q48, g48⟩ := z
              have p48 := AP_n p34 g48
              obtain ⟨k1, -⟩ := WC_a w4 p48
              have vv : (sgn S 0 * sgn S 0) * (sgn S 0 * sgn S 0) ≤ 64 := Nat.mul_le_mul h8 h8
              rw [f1.i5]
              refine xo_g (b19 k1 q48) ?_
              rw [xz_nI (by omega)]
              exact xo_lt (K _ ⟨h41, xt h34, gPro S 0 0, _, rfl, p48.more (by omega) (by omega), gPro_ga gw.2 gw.2 gw.1.1 gw.1.1 h8, q48, ⟨by omega, by show xt h34 + sgn S 0 * sgn S 0 < xt h41; omega⟩, RD_pro rd W N (by omega) g0' h8, by rw [List.length_append, ln9, l17]; omega⟩)
        · exact xo_f (fun z => y4 ((nI_eq (by omega) (by omega)).mp z)) (K2 _ rfl)
end WGR
