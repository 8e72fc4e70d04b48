/-! The World made: while an Arrow is written. -/
set_option linter.unusedVariables false
/-- the heap h, grown out of h0: the text l, the draws, the Arrow -/
def AX (h0 : XH) (c d s n A f o nt nb : Nat) (h : XH) (k : Nat) (p q : Nat → Nat) (cc uu : Nat) (l : List Nat) : Prop := (∃ B, SB h (c + 1) B l ∧ c < B) ∧ Gr (mD h0 c d A (A + 2)) cc uu h0 h ∧ DR h d s n k ∧ lA h A f o nt nb p q
/-- where that happens -/
def AH (h0 : XH) (c d s A : Nat) (gb mb ab : Nat → Nat) (S : SD) (T : ST) : Prop := (lW h0 c gb mb ab S T ∧ lO c gb mb ab S A) ∧ xr h0 c 0 = some (c + 1) ∧ (d < c ∧ s < d) ∧ A + 2 < xt h0
section AXS
variable {E : XG} {h h' h0 : XH} {c d s n A f o nt nb k cc uu c1 u1 : Nat} {gb mb ab : Nat → Nat} {S : SD} {T : ST} {p q : Nat → Nat} {l l' : List Nat}
theorem AX_w (H : AH h0 c d s A gb mb ab S T) (m : AX h0 c d s n A f o nt nb h k p q cc uu l) : lW h c gb mb ab S T ∧ xr h c 0 = some (c + 1) ∧ xk h (c + 1) = 24 := by
  obtain ⟨⟨w, oo⟩, r0, ⟨h1, h2⟩, h3⟩ := H
  obtain ⟨⟨B, sb, hB⟩, g, -⟩ := m
  have o4 := oo.2.2.2
  have kc := w.k
  exact ⟨lW_sk w oo (fun a a1 a2 a3 a4 => g.s (by omega) (fun q => by unfold mD tD at q; omega)), ((g.s (a := c) (by omega) (fun q => by unfold mD tD at q; omega)).2.2.2 0).trans r0, sb.k⟩
theorem AX_p (m : AX h0 c d s n A f o nt nb h k p q cc uu l) : AP (tD h c) 0 0 h (c + 1) h l := by
  obtain ⟨⟨B, sb, hB⟩, -⟩ := m
  exact ⟨B, sb, ⟨fun _ => ⟨by omega, Or.inl sb.k⟩, fun _ => ⟨hB, Or.inr sb.ka⟩⟩, Gr_refl _ h⟩
/-- letters put behind -/
theorem AX_a (H : AH h0 c d s A gb mb ab S T) (m : AX h0 c d s n A f o nt nb h k p q cc uu l) (y : AP (tD h c) c1 u1 h (c + 1) h' l') : AX h0 c d s n A f o nt nb h' k p q (cc + c1) (uu + u1) l' := by
  obtain ⟨⟨w0, oo⟩, r0, ⟨h1, h2⟩, h3⟩ := H
  have o4 := oo.2.2.2
  obtain ⟨-, g, dr, la⟩ := m
  obtain ⟨B, a1, a2, a3⟩ := y
  have t := g.t
  have k0 := la.1.1
  have k1 := la.2.1.1.1
  have k2 := la.2.2.1.1
  refine ⟨⟨B, a1, ?_⟩, Gr_trans g a3 (fun _ q => q) (fun a q y => ?_), DR_sm dr (a3.s (by omega) (fun q => by unfold tD at q; omega)) (a3.s (by omega) (fun q => by unfold tD at q; omega)), lA_sm la (a3.s (by omega) (fun q => by unfold tD at q; omega)) (a3.s (by omega) (fun q => by unfold tD at q; omega)) (a3.s (by omega) (fun q => by unfold tD at q; omega))⟩
  · rcases Nat.lt_or_ge B (xt h) with q | q
    · exact (a2.2 q).1
    · omega
  · refine Or.inl ⟨q.1, ?_⟩
    rw [← g.k y]
    exact q.2
theorem AX_yi (m : AX h0 c d s n A f o nt nb h k p q cc uu l) {a j : Nat} {x : Int32} (ha : a < xt h) (hd : a < xt h0 → mD h0 c d A (A + 2) a) (n1 : ¬ a = c + 1) (nk : ¬ xk h a = 11) {p' q' : Nat → Nat} {k' : Nat} (dr : DR (yi h a j x) d s n k') (la : lA (yi h a j x) A f o nt nb p' q') : AX h0 c d s n A f o nt nb (yi h a j x) k' p' q' cc uu l := by
  obtain ⟨⟨B, sb, hB⟩, g, -⟩ := m
  refine ⟨⟨B, SB_sm sb (smC_yi (fun q => n1 q.symm)) (smC_yi (fun q => nk (by rw [← q]; exact sb.ka))) (Nat.le_refl _), hB⟩, Gr_yi g ha hd, dr, la⟩
/-- a draw -/
theorem AX_d (H : AH h0 c d s A gb mb ab S T) (m : AX h0 c d s n A f o nt nb h k p q cc uu l) : AX h0 c d s n A f o nt nb (yi h d 1 (nI (k + 1))) (k + 1) p q cc uu l := by
  have kd := m.2.2.1.1.1
  have la := m.2.2.2
  have o4 := H.1.2.2.2.2
  have hd := H.2.2.1
  have t := m.2.1.t
  have hz := H.2.2.2
  exact AX_yi m (by omega) (fun _ => Or.inr (Or.inl rfl)) (by omega) (by omega) ⟨⟨m.2.2.1.1.1, m.2.2.1.1.2.1, xi_yi1 _ _ _ _⟩, m.2.2.1.2⟩ (lA_sm la (smC_yi (by omega)) (smC_yi (by omega)) (smC_yi (by omega)))
/-- a value of its upper row -/
theorem AX_t (H : AH h0 c d s A gb mb ab S T) (m : AX h0 c d s n A f o nt nb h k p q cc uu l) {x v : Nat} : AX h0 c d s n A f o nt nb (yi h (A + 1) x (nI v)) k (fun y => if y = x then v else p y) q cc uu l := by
  obtain ⟨⟨w0, oo⟩, r0, ⟨h1, h2⟩, h3⟩ := H
  have o4 := oo.2.2.2
  have t := m.2.1.t
  obtain ⟨a0, ⟨a1, a2⟩, a3, a4⟩ := m.2.2.2
  have ka := a1.1
  refine AX_yi m (by omega) (fun _ => Or.inr (Or.inr ⟨by omega, by omega⟩)) (by omega) (by omega) (DR_yi m.2.2.1 (by omega) (by omega)) ⟨⟨a0.1, ⟨(xi_yi2 _ _ (Or.inl (by omega))).trans a0.2.1.1, (xi_yi2 _ _ (Or.inl (by omega))).trans a0.2.1.2⟩, a0.2.2⟩, ⟨a1, fun y hy => ?_⟩, a3, fun y hy => (xi_yi2 _ _ (Or.inl (by omega))).trans (a4 y hy)⟩
  by_cases e : y = x
  · dsimp only
    rw [e, xi_yi1, if_pos rfl]
  · dsimp only
    rw [xi_yi2 _ _ (Or.inr e), if_neg e]; exact a2 y hy
/-- a value of its lower row -/
theorem AX_b (H : AH h0 c d s A gb mb ab S T) (m : AX h0 c d s n A f o nt nb h k p q cc uu l) {x v : Nat} : AX h0 c d s n A f o nt nb (yi h (A + 2) x (nI v)) k p (fun y => if y = x then v else q y) cc uu l := by
  obtain ⟨⟨w0, oo⟩, r0, ⟨h1, h2⟩, h3⟩ := H
  have o4 := oo.2.2.2
  have t := m.2.1.t
  obtain ⟨a0, ⟨a1, a2⟩, a3, a4⟩ := m.2.2.2
  have ka := a3.1
  refine AX_yi m (by omega) (fun _ => Or.inr (Or.inr ⟨by omega, by omega⟩)) (by omega) (by omega) (DR_yi m.2.2.1 (by omega) (by omega)) ⟨⟨a0.1, ⟨(xi_yi2 _ _ (Or.inl (by omega))).trans a0.2.1.1, (xi_yi2 _ _ (Or.inl (by omega))).trans a0.2.1.2⟩, a0.2.2⟩, ⟨a1, fun y hy => (xi_yi2 _ _ (Or.inl (by omega))).trans (a2 y hy)⟩, a3, fun y hy => ?_⟩
  by_cases e : y = x
  · dsimp only
    rw [e, xi_yi1, if_pos rfl]
  · dsimp only
    rw [xi_yi2 _ _ (Or.inr e), if_neg e]; exact a4 y hy
theorem AX.more (m : AX h0 c d s n A f o nt nb h k p q cc uu l) (hc : cc ≤ c1) (hu : uu ≤ u1) : AX h0 c d s n A f o nt nb h k p q c1 u1 l := ⟨m.1, Gr_more m.2.1 hc hu, m.2.2⟩
/-- the Arrow put into the World -/
theorem WC_adda {nl2 : Nat} {D2 : Nat → Int32} {l2 : List Nat} (H : AH h0 c d s A gb mb ab S T) (m : AX h0 c d s n A f o (nuS S f) (nlS2 S f) h k p q cc uu l2) (a8 : sna S < 8) (hf : f < snm S) (ho : o < snm S) (hp : ∀ x, x < nuS S f → p x < nuS S o) (hq : ∀ x, x < nlS2 S f → q x < nlS2 S o) (rd : RD l2 nl2 (aS S f o) (Tar S T p q) D2) (N : NM3 S) : WC (yi (yr h (c + 5) (sna S) (some A)) c 7 (nI (sna S + 1))) c gb mb (fun a => if a = sna S then A else ab a) (aS S f o) (Tar S T p q) d s n k l2 nl2 D2 := by
  obtain ⟨w, r0, sk⟩ := AX_w H m
  have W := w.ws
  have la := m.2.2.2
  have dr := m.2.2.1
  obtain ⟨B, sb, hB⟩ := m.1
  have t := m.2.1.t
  obtain ⟨⟨w0, oo⟩, -, ⟨h1, h2⟩, h3⟩ := H
  have o4 := oo.2.2.2
  have sm : ∀ a, ¬ a = c → ¬ a = c + 5 → smC a h (yi (yr h (c + 5) (sna S) (some A)) c 7 (nI (sna S + 1))) := fun a a1 a2 => smC_t (smC_yr a2) (smC_yi a1)
  have kc := w.k
  have k5 := w.k5.1
  have kB := sb.ka
  refine ⟨lW_adda w oo a8 hf ho la (by omega) (WT_a W w.wt hp hq), ⟨DR_sm dr (sm d (by omega) (by omega)) (sm s (by omega) (by omega)), h1, h2⟩, ⟨?_, B, SB_sm sb (sm _ (by omega) (by omega)) (sm B (fun z => by rw [z] at kB; omega) (fun z => by rw [z] at kB; omega)) (Nat.le_refl _), hB⟩, rd, NM3_a N⟩
  rw [xr_yi, xr_yr2 _ _ (Or.inl (by omega))]
  exact r0
end AXS
