/-! Class and reference answer alike: pairs, large groups. -/
set_option linter.unusedVariables false
theorem xq_ev {α : Type} {m : XP α} {Q : α ⊕ Nat → XH → Prop} {v : α} {h : XH} (e : m = xv v h) (q : Q (.inl v) h) : xq m Q := ⟨_, _, e, q⟩
theorem xq_exx {α : Type} {m : XP α} {Q : α ⊕ Nat → XH → Prop} {c : Nat} {h : XH} (e : m = xx c h) (q : Q (.inr c) h) : xq m Q := ⟨_, _, e, q⟩
theorem FX4_has_v {E : XG} {h : XH} {P n : Nat} (hk : xk h P = 5) (hc : xi h P 4 = nI n) (hn : n < 2 ^ 31) (p : Int32) : FX4_has E P p h = xv (bI (inr p n)) h := by
  unfold FX4_has
  cases e : inr p n
  · rcases inr_no e with c | ⟨c1, c2⟩
    · simp (disch := omega) only [↓xg, ↓reduceIte, ↓xjn_d, ↓xlt_d, eq_self, and_self, and_true, true_and, not_true, not_false_iff, ne_eq, true_or, or_true, or_false, false_or, nI_s, nI_leP, nI_eqP, c]
      rfl
    · simp (disch := omega) only [↓xg, ↓reduceIte, ↓xjn_d, ↓xlt_d, eq_self, and_self, and_true, true_and, not_true, not_false_iff, ne_eq, true_or, or_true, or_false, false_or, nI_s, nI_leP, nI_eqP, c1, hk, hc, c2]
      rfl
  · obtain ⟨k, hk2, rfl⟩ := inr_of hn e
    have c1 : ¬ nI k < (0 : Int32) := by rw [nI_lt0 (by omega)]; exact id
    have c2 : ¬ n ≤ k := by omega
    simp (disch := omega) only [↓xg, ↓reduceIte, ↓xjn_d, ↓xlt_d, eq_self, and_self, and_true, true_and, not_true, not_false_iff, ne_eq, true_or, or_true, or_false, false_or, nI_s, nI_leP, nI_eqP, c1, hk, hc, c2]
    rfl
section AG
variable {E : XG} {h : XH} {X Y O : Nat} {Z : ZD}
theorem XI.lw {w s f : Nat} (x : XI h X w s f Z) {m : Nat} (hm : m < snm (zS Z)) (hw : whS (zS Z) (zT Z) m = 0) : LW (mdS (zS Z) (zT Z) m) := LW_of (x.ci.wd hm) (x.ci.gd hm) hw
/-- the pair of a lawful module, fresh -/
theorem fresh_o {w s f : Nat} (x : XI h X w s f Z) {m : Nat} (hm : m < snm (zS Z)) (hw : whS (zS Z) (zT Z) m = 0) : xo (FX1_freshPair E (w + 32 + 8 * m) h) (fun v h' => v = w + 32 + 8 * m + 3 ∧ iw (rXP X) h h' ∧ XI h' X w s f Z ∧ PR h' (w + 32 + 8 * m) (mdS (zS Z) (zT Z) m)) := by
  have h6 := x.ci.1.1.1.2.1
  have apm := x.ci.apm hm
  refine xo_w (FX1_freshPair_o (x.ci.cm hm) (x.lw hm hw) apm.1 apm.2) (fun v h' q => ?_)
  obtain ⟨q1, q2, q3⟩ := q
  have q4 : iw (rXP X) h h' := q2.wide (fun a z => x.rp (rPW_of (by omega) z))
  exact ⟨q1, q4, XI_iw x q4 (fun a z => Or.inr (Or.inr z)), q3⟩
end AG
