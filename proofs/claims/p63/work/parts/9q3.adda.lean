/-! The World made: an Arrow more. -/
set_option linter.unusedVariables false
section ADA
variable {h h' : XH} {c A f o d s n k : Nat} {gb mb ab : Nat → Nat} {S : SD} {T : ST} {p q : Nat → Nat}
theorem WT_a (W : WS S) (wt : WT S T) (hp : ∀ x, x < nuS S f → p x < nuS S o) (hq : ∀ x, x < nlS2 S f → q x < nlS2 S o) : WT (aS S f o) (Tar S T p q) := by
  obtain ⟨t1, t2, t3, t4⟩ := wt
  refine ⟨t1, t2, fun a x ha hx => ?_, fun a x ha hx => ?_⟩
  · have ha : a < sna S + 1 := ha
    by_cases e : a = sna S
    · subst e
      have e1 : saf (aS S f o) (sna S) = f := aS_n.1
      have e2 : sao (aS S f o) (sna S) = o := aS_n.2
      rw [e1] at hx
      rw [e2]
      show (if sna S = sna S then p x else ttp T (sna S) x) < _
      rw [if_pos rfl]
      exact hp x hx
    · rw [(aS_o e).1] at hx
      rw [(aS_o e).2]
      show (if a = sna S then p x else ttp T a x) < _
      rw [if_neg e]
      exact t3 a x (by omega) hx
  · have ha : a < sna S + 1 := ha
    by_cases e : a = sna S
    · subst e
      have e1 : saf (aS S f o) (sna S) = f := aS_n.1
      have e2 : sao (aS S f o) (sna S) = o := aS_n.2
      rw [e1] at hx
      rw [e2]
      show (if sna S = sna S then q x else tbt T (sna S) x) < _
      rw [if_pos rfl]
      exact hq x hx
    · rw [(aS_o e).1] at hx
      rw [(aS_o e).2]
      show (if a = sna S then q x else tbt T a x) < _
      rw [if_neg e]
      exact t4 a x (by omega) hx
theorem lW_adda (w : lW h c gb mb ab S T) (oo : lO c gb mb ab S A) (a8 : sna S < 8) (hf : f < snm S) (ho : o < snm S) (hA : lA h A f o (nuS S f) (nlS2 S f) p q) (hX : A + 2 < xt h) (wt : WT (aS S f o) (Tar S T p q)) : lW (yi (yr h (c + 5) (sna S) (some A)) c 7 (nI (sna S + 1))) c gb mb (fun a => if a = sna S then A else ab a) (aS S f o) (Tar S T p q) ∧ lO c gb mb (fun a => if a = sna S then A else ab a) (aS S f o) (xt h) := by
  have W := w.ws
  have o4 := oo.2.2.2
  obtain ⟨⟨⟨q1, q2, q6, q7, q8⟩, p1, p2⟩, t1, t2, t3, t4, t5, t6⟩ := w
  have sm : ∀ a, ¬ a = c → ¬ a = c + 5 → smC a h (yi (yr h (c + 5) (sna S) (some A)) c 7 (nI (sna S + 1))) := fun a a1 a2 => smC_t (smC_yr a2) (smC_yi a1)
  refine ⟨⟨⟨⟨q1, ⟨?_, ?_, ?_, ?_⟩, (xi_yi2 _ _ (Or.inr (by decide))).trans q6, (xi_yi2 _ _ (Or.inr (by decide))).trans q7, xi_yi1 _ _ _ _⟩, p1, p2⟩, fun g hg => ?_, fun m hm => ?_, fun a ha => ?_, fun j hj => ((sm (c + 6) (by omega) (by omega)).2.1 _).trans (t4 j hj), WS_a W a8 hf ho, wt⟩, fun g hg => ?_, fun m hm => ?_, fun a ha => ?_, by omega⟩
  · rw [xr_yi, xr_yr2 _ _ (Or.inl (by omega))]; exact q2.1
  · rw [xr_yi, xr_yr2 _ _ (Or.inl (by omega))]; exact q2.2.1
  · rw [xr_yi, xr_yr2 _ _ (Or.inl (by omega))]; exact q2.2.2.1
  · rw [xr_yi, xr_yr2 _ _ (Or.inl (by omega))]; exact q2.2.2.2
  · have hg : g < sng S := hg
    have o1 := oo.1 g hg
    refine ⟨?_, lV_sm (t1 g hg).2 (fun a a1 a2 => sm a (by omega) (by omega))⟩
    rw [xr_yi, xr_yr2 _ _ (Or.inl (by omega))]
    exact (t1 g hg).1
  · have hm : m < snm S := hm
    have o2 := oo.2.1 m hm
    refine ⟨?_, ⟨?_, ?_⟩, ?_⟩
    · rw [xr_yi, xr_yr2 _ _ (Or.inl (by omega))]
      exact (t2 m hm).1
    · exact (xi_yi2 _ _ (Or.inl (by omega))).trans (t2 m hm).2.1.1
    · exact (xi_yi2 _ _ (Or.inl (by omega))).trans (t2 m hm).2.1.2
    · have r := t5.2.2.1 m hm
      have r1 := oo.1 _ r.1
      have r2 := oo.1 _ r.2
      have lm : lM (yi (yr h (c + 5) (sna S) (some A)) c 7 (nI (sna S + 1))) (mb m) (gb (smu S m)) (gb (sml S m)) (mdS S T m) := lM_sm (t2 m hm).2.2 (fun a y => by
        have y : (gb (smu S m) ≤ a ∧ a ≤ gb (smu S m) + sgn S (smu S m)) ∨ (gb (sml S m) ≤ a ∧ a ≤ gb (sml S m) + sgn S (sml S m)) ∨ (mb m ≤ a ∧ a ≤ mb m + 2 + nlS2 S m) := y
        exact sm a (by omega) (by omega))
      exact lm
  · have ha : a < sna S + 1 := ha
    by_cases e : a = sna S
    · subst e
      have e1 : saf (aS S f o) (sna S) = f := aS_n.1
      have e2 : sao (aS S f o) (sna S) = o := aS_n.2
      rw [e1, e2]
      refine ⟨?_, ?_⟩
      · show xr _ (c + 5) (sna S) = some (if sna S = sna S then A else ab (sna S))
        rw [if_pos rfl, xr_yi, xr_yr1]
      · show lA _ (if sna S = sna S then A else ab (sna S)) f o (nuS S f) (nlS2 S f) (fun x => if sna S = sna S then p x else ttp T (sna S) x) (fun x => if sna S = sna S then q x else tbt T (sna S) x)
        simp only [if_pos]
        exact lA_sm hA (sm _ (by omega) (by omega)) (sm _ (by omega) (by omega)) (sm _ (by omega) (by omega))
    · have ha : a < sna S := by omega
      have o3 := oo.2.2.1 a ha
      rw [(aS_o e).1, (aS_o e).2]
      refine ⟨?_, ?_⟩
      · show xr _ (c + 5) a = some (if a = sna S then A else ab a)
        rw [if_neg e, xr_yi, xr_yr2 _ _ (Or.inr e)]
        exact (t3 a ha).1
      · show lA _ (if a = sna S then A else ab a) (saf S a) (sao S a) (nuS S (saf S a)) (nlS2 S (saf S a)) (fun x => if a = sna S then p x else ttp T a x) (fun x => if a = sna S then q x else tbt T a x)
        simp only [if_neg e]
        exact lA_sm (t3 a ha).2 (sm _ (by omega) (by omega)) (sm _ (by omega) (by omega)) (sm _ (by omega) (by omega))
  · have hg : g < sng S := hg
    have o1 := oo.1 g hg
    refine ⟨o1.1, by have : sgn (aS S f o) g = sgn S g := rfl; omega, o1.2.2.1, fun a ha => ?_⟩
    have ha : a < sna S + 1 := ha
    show gb g + sgn S g < (if a = sna S then A else ab a)
    by_cases e : a = sna S
    · rw [if_pos e]; exact o1.2.1
    · rw [if_neg e]; exact o1.2.2.2 a (by omega)
  · have hm : m < snm S := hm
    have o2 := oo.2.1 m hm
    refine ⟨o2.1, by have : nlS2 (aS S f o) m = nlS2 S m := rfl; omega, o2.2.2.1, fun a ha => ?_⟩
    have ha : a < sna S + 1 := ha
    show mb m + 2 + nlS2 S m < (if a = sna S then A else ab a)
    by_cases e : a = sna S
    · rw [if_pos e]; exact o2.2.1
    · rw [if_neg e]; exact o2.2.2.2 a (by omega)
  · have ha : a < sna S + 1 := ha
    dsimp only
    by_cases e : a = sna S
    · rw [if_pos e]
      refine ⟨by omega, by omega, fun a' h1 h2 => ?_⟩
      have h2 : a' < sna S + 1 := h2
      omega
    · have o3 := oo.2.2.1 a (by omega)
      rw [if_neg e]
      refine ⟨o3.1, by omega, fun a' h1 h2 => ?_⟩
      have h2 : a' < sna S + 1 := h2
      by_cases e' : a' = sna S
      · rw [if_pos e']; exact o3.2.1
      · rw [if_neg e']; exact o3.2.2 a' h1 (by omega)
end ADA
