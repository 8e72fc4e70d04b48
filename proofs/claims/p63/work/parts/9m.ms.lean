/-! The World made: while a Module is written. -/
set_option linter.unusedVariables false
/-- what may be written: the text, the draws, rows behind M up to z -/
def mD (h0 : XH) (c d M z a : Nat) : Prop := tD h0 c a ∨ a = d ∨ (M < a ∧ a ≤ z)
/-- the heap h, grown out of h0: the text l, the draws, the Module -/
def MS (h0 : XH) (c d s n M z U L : Nat) (h : XH) (k : Nat) (dd : MD) (cc uu : Nat) (l : List Nat) : Prop := (∃ A, SB h (c + 1) A l ∧ c < A) ∧ Gr (mD h0 c d M z) cc uu h0 h ∧ DR h d s n k ∧ lM h M U L dd
/-- where that happens -/
def MH (h0 : XH) (c d s M z U L nu nl : Nat) (gb mb ab : Nat → Nat) (S : SD) (T : ST) : Prop := (lW h0 c gb mb ab S T ∧ lO c gb mb ab S M) ∧ xr h0 c 0 = some (c + 1) ∧ (d < c ∧ s < d) ∧ (z = M + 2 + nl ∧ z < xt h0) ∧ U + nu < M ∧ L + nl < M
section MSS
variable {E : XG} {h h' h0 : XH} {c d s n M z U L k cc uu c1 u1 : Nat} {gb mb ab : Nat → Nat} {S : SD} {T : ST} {dd : MD} {l l' : List Nat}
theorem MS_w (H : MH h0 c d s M z U L (dnu dd) (dnl dd) gb mb ab S T) (m : MS h0 c d s n M z U L h k dd cc uu l) : lW h c gb mb ab S T ∧ xr h c 0 = some (c + 1) ∧ xk h (c + 1) = 24 := by
  obtain ⟨⟨w, o⟩, r0, ⟨h1, h2⟩, ⟨h3, h4⟩, h5, h6⟩ := H
  obtain ⟨⟨A, sb, hA⟩, g, -⟩ := m
  have o4 := o.2.2.2
  have kc := w.k
  exact ⟨lW_sk w o (fun a a1 a2 a3 a4 => g.s (by omega) (fun q => by unfold mD tD at q; omega)), ((g.s (a := c) (by omega) (fun q => by unfold mD tD at q; omega)).2.2.2 0).trans r0, sb.k⟩
theorem MS_p (m : MS h0 c d s n M z U L h k dd cc uu l) : AP (tD h c) 0 0 h (c + 1) h l := by
  obtain ⟨⟨A, sb, hA⟩, -⟩ := m
  exact ⟨A, sb, ⟨fun _ => ⟨by omega, Or.inl sb.k⟩, fun _ => ⟨hA, Or.inr sb.ka⟩⟩, Gr_refl _ h⟩
theorem MS_lt (H : MH h0 c d s M z U L (dnu dd) (dnl dd) gb mb ab S T) (g : Gr (mD h0 c d M z) cc uu h0 h) {a : Nat} (q : mReg M U L dd a) : a < xt h ∧ a < xt h0 := by
  obtain ⟨-, -, -, ⟨h3, h4⟩, h5, h6⟩ := H
  have t := g.t
  unfold mReg at q
  omega
/-- letters put behind -/
theorem MS_a (H : MH h0 c d s M z U L (dnu dd) (dnl dd) gb mb ab S T) (m : MS h0 c d s n M z U L h k dd cc uu l) (p : AP (tD h c) c1 u1 h (c + 1) h' l') : MS h0 c d s n M z U L h' k dd (cc + c1) (uu + u1) l' := by
  have w := MS_w H m
  have lt := fun {a : Nat} (q : mReg M U L dd a) => MS_lt H m.2.1 q
  obtain ⟨⟨w0, o⟩, r0, ⟨h1, h2⟩, ⟨h3, h4⟩, h5, h6⟩ := H
  have o4 := o.2.2.2
  obtain ⟨-, g, dr, lm⟩ := m
  obtain ⟨A, a1, a2, a3⟩ := p
  have t := g.t
  refine ⟨⟨A, a1, ?_⟩, Gr_trans g a3 (fun _ q => q) (fun a q y => ?_), DR_sm dr (a3.s (by omega) (fun q => by unfold tD at q; omega)) (a3.s (by omega) (fun q => by unfold tD at q; omega)), lM_sm lm (fun a q => a3.s (lt q).1 (fun y => ?_))⟩
  · rcases Nat.lt_or_ge A (xt h) with q | q
    · exact (a2.2 q).1
    · omega
  · refine Or.inl ⟨q.1, ?_⟩
    rw [← g.k y]
    exact q.2
  · have kk := mReg_k lm q
    unfold tD at y
    omega
theorem MS_yi (m : MS h0 c d s n M z U L h k dd cc uu l) {a j : Nat} {x : Int32} (ha : a < xt h) (hd : a < xt h0 → mD h0 c d M z a) (nb : ¬ a = c + 1) (nk : ¬ xk h a = 11) {dd' : MD} {k' : Nat} (dr : DR (yi h a j x) d s n k') (lm : lM (yi h a j x) M U L dd') : MS h0 c d s n M z U L (yi h a j x) k' dd' cc uu l := by
  obtain ⟨⟨A, sb, hA⟩, g, -⟩ := m
  refine ⟨⟨A, SB_sm sb (smC_yi (fun q => nb q.symm)) (smC_yi (fun q => nk (by rw [← q]; exact sb.ka))) (Nat.le_refl _), hA⟩, Gr_yi g ha hd, dr, lm⟩
/-- a draw -/
theorem MS_d (H : MH h0 c d s M z U L (dnu dd) (dnl dd) gb mb ab S T) (m : MS h0 c d s n M z U L h k dd cc uu l) : MS h0 c d s n M z U L (yi h d 1 (nI (k + 1))) (k + 1) dd cc uu l := by
  have lt := fun {a : Nat} (q : mReg M U L dd a) => MS_lt H m.2.1 q
  have kd := m.2.2.1.1.1
  have lm := m.2.2.2
  have o4 := H.1.2.2.2.2
  have hd := H.2.2.1
  have t := m.2.1.t
  have hz := H.2.2.2.1
  refine MS_yi m (by omega) (fun _ => Or.inr (Or.inl rfl)) (by omega) (by omega) ⟨⟨m.2.2.1.1.1, m.2.2.1.1.2.1, xi_yi1 _ _ _ _⟩, m.2.2.1.2⟩ (lM_yi lm (fun q => ?_))
  have kk := mReg_k lm q
  omega
theorem DR_yi {a j : Nat} {x : Int32} (q : DR h d s n k) (h1 : ¬ a = d) (h2 : ¬ a = s) : DR (yi h a j x) d s n k := DR_sm q (smC_yi (fun z => h1 z.symm)) (smC_yi (fun z => h2 z.symm))
/-- a boundary -/
theorem MS_bd (H : MH h0 c d s M z U L (dnu dd) (dnl dd) gb mb ab S T) (m : MS h0 c d s n M z U L h k dd cc uu l) {a v : Nat} (ha : a < dnu dd) (hv : v < dnl dd) : MS h0 c d s n M z U L (yi h (M + 1) a (nI v)) k (dSt dd (fun x => if x = a then v else dbd dd x) (dac dd)) cc uu l := by
  obtain ⟨⟨w0, o⟩, r0, ⟨h1, h2⟩, ⟨h3, h4⟩, h5, h6⟩ := H
  have o4 := o.2.2.2
  have t := m.2.1.t
  have kb := m.2.2.2.kb
  exact MS_yi m (by omega) (fun _ => Or.inr (Or.inr ⟨by omega, by omega⟩)) (by omega) (by omega) (DR_yi m.2.2.1 (by omega) (by omega)) (lM_bd m.2.2.2 h5 h6 ha hv)
/-- an act -/
theorem MS_ac (H : MH h0 c d s M z U L (dnu dd) (dnl dd) gb mb ab S T) (m : MS h0 c d s n M z U L h k dd cc uu l) {g a v : Nat} (hg : g < dnl dd) (ha : a < dnu dd) (hv : v < dnu dd) : MS h0 c d s n M z U L (yi h (M + 2 + 1 + g) a (nI v)) k (dSt dd (dbd dd) (fun y x => if y = g ∧ x = a then v else dac dd y x)) cc uu l := by
  obtain ⟨⟨w0, o⟩, r0, ⟨h1, h2⟩, ⟨h3, h4⟩, h5, h6⟩ := H
  have o4 := o.2.2.2
  have t := m.2.1.t
  have kb := (m.2.2.2.a.1.2 g hg).2.1
  exact MS_yi m (by omega) (fun _ => Or.inr (Or.inr ⟨by omega, by omega⟩)) (by omega) (by omega) (DR_yi m.2.2.1 (by omega) (by omega)) (lM_ac m.2.2.2 h5 h6 hg ha hv)
theorem MS.more (m : MS h0 c d s n M z U L h k dd cc uu l) (hc : cc ≤ c1) (hu : uu ≤ u1) : MS h0 c d s n M z U L h k dd c1 u1 l := ⟨m.1, Gr_more m.2.1 hc hu, m.2.2⟩
/-- the same Module, otherwise said -/
theorem lM_eq {d' : MD} (m : lM h M U L dd) (e0 : dnu d' = dnu dd ∧ dtu d' = dtu dd ∧ dvu d' = dvu dd ∧ dnl d' = dnl dd ∧ dtl d' = dtl dd ∧ dvl d' = dvl dd) (e1 : ∀ a, a < dnu dd → dbd d' a = dbd dd a) (e2 : ∀ g a, g < dnl dd → a < dnu dd → dac d' g a = dac dd g a) : lM h M U L d' := by
  obtain ⟨p1, p2, p3, p4, p5, p6⟩ := e0
  obtain ⟨⟨u0, u8, l0, l8⟩, w2, w3, w4, w5, w6, w7⟩ := m.w
  obtain ⟨g1, g2⟩ := m.g
  refine ⟨m.1, ⟨by rw [p1, p2]; exact m.u, by rw [p4, p5]; exact m.l⟩, ⟨⟨⟨m.kb, by rw [p1]; exact m.nb⟩, fun a ha => ?_⟩, ?_⟩, ?_, ?_⟩
  · rw [p1] at ha
    rw [e1 a ha]; exact m.2.2.1.1.2 a ha
  · rw [p4, p1]
    exact ⟨m.a.1, fun g a hg ha => by rw [e2 g a hg ha]; exact m.a.2 g a hg ha⟩
  · unfold Wd
    rw [p1, p2, p3, p4, p5, p6]
    exact ⟨⟨u0, u8, l0, l8⟩, w2, w3, w4, w5, fun a ha => by rw [e1 a ha]; exact w6 a ha, fun g a hg ha => by rw [e2 g a hg ha]; exact w7 g a hg ha⟩
  · unfold GD
    rw [p1, p2, p3, p4, p5, p6]
    exact ⟨g1, g2⟩
theorem dgT_congr {f f' : Nat → Nat} {l : List Nat} : ∀ i, (∀ j, j < i → f j = f' j) → dgT f l i = dgT f' l i
  | 0, _ => rfl
  | i + 1, h => by
    show (dgT f l i ++ [32]) ++ [48 + f i] = (dgT f' l i ++ [32]) ++ [48 + f' i]
    rw [dgT_congr i (fun j hj => h j (by omega)), h i (by omega)]
end MSS
