/-! The World made: a Module more, an Arrow more. -/
set_option linter.unusedVariables false
section ADM
variable {h h' : XH} {c M u lo d s n k : Nat} {gb mb ab : Nat → Nat} {S : SD} {T T2 : ST}
theorem mdS_mo {m : Nat} (e : ¬ m = snm S) (h1 : tbd T2 m = tbd T m) (h2 : tac T2 m = tac T m) : mdS (mS S u lo) T2 m = mdS S T m := by
  unfold mdS
  rw [(mS_o e).1, (mS_o e).2, h1, h2]
  rfl
theorem lW_addm (w : lW h c gb mb ab S T) (o : lO c gb mb ab S M) (a0 : sna S = 0) (m6 : snm S < 6) (hu : u < sng S) (hl : lo < sng S) (hT : (∀ m, ¬ m = snm S → tbd T2 m = tbd T m ∧ tac T2 m = tac T m) ∧ tcc T2 = tcc T) (q : lM h M (gb u) (gb lo) (mdS (mS S u lo) T2 (snm S))) (hi : xi h M 0 = nI u ∧ xi h M 1 = nI lo) (hX : M + 2 + sgn S lo < xt h) (wt : WT (mS S u lo) T2) : lW (yi (yr h (c + 4) (snm S) (some M)) c 6 (nI (snm S + 1))) c gb (fun m => if m = snm S then M else mb m) ab (mS S u lo) T2 ∧ lO c gb (fun m => if m = snm S then M else mb m) ab (mS S u lo) (xt h) := by
  have W := w.ws
  have o4 := o.2.2.2
  obtain ⟨⟨⟨q1, q2, q6, q7, q8⟩, p1, p2⟩, t1, t2, t3, t4, t5, t6⟩ := w
  have sm : ∀ a, ¬ a = c → ¬ a = c + 4 → smC a h (yi (yr h (c + 4) (snm S) (some M)) c 6 (nI (snm S + 1))) := fun a a1 a2 => smC_t (smC_yr a2) (smC_yi a1)
  have reg : ∀ {M' U L : Nat} {dd : MD}, lM h M' U L dd → (∀ a, mReg M' U L dd a → c + 6 < a) → lM (yi (yr h (c + 4) (snm S) (some M)) c 6 (nI (snm S + 1))) M' U L dd := fun m e => lM_sm m (fun a y => by have := e a y; exact sm a (by omega) (by omega))
  have ou := o.1 u hu
  have ol := o.1 lo hl
  refine ⟨⟨⟨⟨q1, ⟨?_, ?_, ?_, ?_⟩, (xi_yi2 _ _ (Or.inr (by decide))).trans q6, xi_yi1 _ _ _ _, (xi_yi2 _ _ (Or.inr (by decide))).trans q8⟩, p1, p2⟩, fun g hg => ?_, fun m hm => ?_, fun a ha => ?_, fun j hj => ((sm (c + 6) (by omega) (by omega)).2.1 _).trans (by rw [hT.2]; exact t4 j hj), WS_m W m6 hu hl, wt⟩, fun g hg => ?_, fun m hm => ?_, fun a ha => ?_, by omega⟩
  · rw [xr_yi, xr_yr2 _ _ (Or.inl (by omega))]; exact q2.1
  · rw [xr_yi, xr_yr2 _ _ (Or.inl (by omega))]; exact q2.2.1
  · rw [xr_yi, xr_yr2 _ _ (Or.inl (by omega))]; exact q2.2.2.1
  · rw [xr_yi, xr_yr2 _ _ (Or.inl (by omega))]; exact q2.2.2.2
  · have hg : g < sng S := hg
    have o1 := o.1 g hg
    refine ⟨?_, lV_sm (t1 g hg).2 (fun a a1 a2 => sm a (by omega) (by omega))⟩
    rw [xr_yi, xr_yr2 _ _ (Or.inl (by omega))]
    exact (t1 g hg).1
  · have hm : m < snm S + 1 := hm
    by_cases e : m = snm S
    · subst e
      refine ⟨?_, ⟨?_, ?_⟩, ?_⟩
      · show xr _ (c + 4) (snm S) = some (if snm S = snm S then M else mb (snm S))
        rw [if_pos rfl, xr_yi, xr_yr1]
      · show xi _ (if snm S = snm S then M else mb (snm S)) 0 = _
        rw [if_pos rfl, mS_n.1, xi_yi2 _ _ (Or.inl (by omega))]
        exact hi.1
      · show xi _ (if snm S = snm S then M else mb (snm S)) 1 = _
        rw [if_pos rfl, mS_n.2, xi_yi2 _ _ (Or.inl (by omega))]
        exact hi.2
      · show lM _ (if snm S = snm S then M else mb (snm S)) _ _ _
        rw [if_pos rfl, mS_n.1, mS_n.2]
        exact reg q (fun a y => by unfold mReg at y; omega)
    · have o2 := o.2.1 m (by omega)
      refine ⟨?_, ⟨?_, ?_⟩, ?_⟩
      · show xr _ (c + 4) m = some (if m = snm S then M else mb m)
        rw [if_neg e, xr_yi, xr_yr2 _ _ (Or.inr e)]
        exact (t2 m (by omega)).1
      · show xi _ (if m = snm S then M else mb m) 0 = _
        rw [if_neg e, (mS_o e).1, xi_yi2 _ _ (Or.inl (by omega))]
        exact (t2 m (by omega)).2.1.1
      · show xi _ (if m = snm S then M else mb m) 1 = _
        rw [if_neg e, (mS_o e).2, xi_yi2 _ _ (Or.inl (by omega))]
        exact (t2 m (by omega)).2.1.2
      · show lM _ (if m = snm S then M else mb m) _ _ _
        rw [if_neg e, (mS_o e).1, (mS_o e).2, mdS_mo e (hT.1 m e).1 (hT.1 m e).2]
        have r := t5.2.2.1 m (by omega)
        have r1 := o.1 _ r.1
        have r2 := o.1 _ r.2
        exact reg (t2 m (by omega)).2.2 (fun a y => by unfold mReg at y; omega)
  · have ha : a < sna S := ha
    omega
  · have hg : g < sng S := hg
    have o1 := o.1 g hg
    refine ⟨o1.1, by have : sgn (mS S u lo) g = sgn S g := rfl; omega, fun m hm => ?_, fun a ha => ?_⟩
    · have hm : m < snm S + 1 := hm
      show gb g + sgn S g < (if m = snm S then M else mb m)
      by_cases e : m = snm S
      · rw [if_pos e]; exact o1.2.1
      · rw [if_neg e]; exact o1.2.2.1 m (by omega)
    · have ha : a < sna S := ha
      omega
  · have hm : m < snm S + 1 := hm
    rw [mS_nl]
    by_cases e : m = snm S
    · rw [if_pos e]
      dsimp only
      rw [if_pos e]
      refine ⟨by omega, by omega, fun m' h1 h2 => ?_, fun a ha => ?_⟩
      · have h2 : m' < snm S + 1 := h2
        omega
      · have ha : a < sna S := ha
        omega
    · have o2 := o.2.1 m (by omega)
      rw [if_neg e]
      dsimp only
      rw [if_neg e]
      refine ⟨o2.1, by omega, fun m' h1 h2 => ?_, fun a ha => ?_⟩
      · have h2 : m' < snm S + 1 := h2
        by_cases e' : m' = snm S
        · rw [if_pos e']; exact o2.2.1
        · rw [if_neg e']; exact o2.2.2.1 m' h1 (by omega)
      · have ha : a < sna S := ha
        omega
  · have ha : a < sna S := ha
    omega
end ADM
