/-! The reference's equivalences. -/
set_option linter.unusedVariables false
theorem cnt_or (X : Int32) (k : Nat) (hk : k < 31) : ∀ n, cnt (X ||| sh k) n = cnt X n + if k < n ∧ mb X k = false then 1 else 0 := by
  intro n
  induction n with
  | zero => rw [if_neg (by omega)]; rfl
  | succ n ih =>
    have e1 : cnt (X ||| sh k) (n + 1) = cnt (X ||| sh k) n + if mb (X ||| sh k) n then 1 else 0 := rfl
    have e2 : cnt X (n + 1) = cnt X n + if mb X n then 1 else 0 := rfl
    rw [e1, e2, ih, mb_or, mb_sh hk]
    by_cases q : n = k
    · subst q
      cases hm : mb X n <;> simp [hm]
    · have q1 : decide (n = k) = false := by simp [q]
      have q3 : (k < n + 1 ∧ mb X k = false) = (k < n ∧ mb X k = false) := by
        apply propext
        constructor
        · rintro ⟨z1, z2⟩; exact ⟨by omega, z2⟩
        · rintro ⟨z1, z2⟩; exact ⟨by omega, z2⟩
      rw [q1, Bool.or_false]
      simp only [q3]
      omega
theorem pk_cnt {d : MD} {K : Int32} {tp : Nat → Nat} {n : Nat} (ht : ∀ x, x < n → tp x < 8) : ∀ i, i ≤ n → cnt (toF d K tp i) 8 ≤ cnt K i ∧ (cnt (toF d K tp i) 8 = cnt K i ↔ anyB i (fun j => mb K j && mb (toF d K tp j) (tp j)) = false) := by
  intro i
  induction i with
  | zero =>
    intro _
    have e0 : toF d K tp 0 = 0 := rfl
    have e1 : ∀ n, cnt 0 n = 0 := by
      intro n
      induction n with
      | zero => rfl
      | succ n ih => show cnt 0 n + (if mb 0 n then 1 else 0) = 0; rw [ih, mb_0]; rfl
    rw [e0, e1]
    exact ⟨Nat.zero_le _, fun _ => rfl, fun _ => rfl⟩
  | succ i ih =>
    intro hi
    obtain ⟨h1, h2⟩ := ih (by omega)
    have h8 := ht i (by omega)
    have e1 : toF d K tp (i + 1) = toF d K tp i ||| (if mb K i then sh (tp i) else 0) := rfl
    have e2 : cnt K (i + 1) = cnt K i + if mb K i then 1 else 0 := rfl
    rw [anyB_s, e1, e2, Bool.or_eq_false_iff, ← h2]
    cases hm : mb K i
    · rw [if_neg (by decide), if_neg (by decide), or_0]
      exact ⟨h1, fun q => ⟨by omega, rfl⟩, fun q => by omega⟩
    · rw [if_pos rfl, if_pos rfl, cnt_or _ _ (by omega)]
      cases hb : mb (toF d K tp i) (tp i)
      · rw [if_pos ⟨h8, rfl⟩]
        exact ⟨by omega, fun q => ⟨by omega, rfl⟩, fun q => by omega⟩
      · rw [if_neg (fun z => by cases z.2)]
        exact ⟨by omega, fun q => by omega, fun q => by cases q.2⟩
theorem cnt_in {s : Int32} {m : Nat} (h : inB m s) : ∀ n, m ≤ n → cnt s n = cnt s m := by
  intro n hn
  induction n with
  | zero => rw [show m = 0 by omega]
  | succ n ih =>
    by_cases e : m = n + 1
    · rw [e]
    · show cnt s n + (if mb s n then 1 else 0) = _
      rw [h n (by omega), ih (by omega)]
      rfl
theorem ker_nu {d : MD} (w : Wd d) : inB (dnu d) (kerS d) := inB_orI fun i hi => inB_ite (inB_sh hi (by have := w.1.2.1; omega)) (inB_0 _)
theorem pk_iff {d e : MD} {tp : Nat → Nat} (w : Wd d) (ht : ∀ x, x < dnu d → tp x < 8) : cnt (toF d (kerS d) tp (dnu d)) 8 = cnt (kerS d) 8 ↔ pkS d (kerS d) tp = false := by
  rw [cnt_in (ker_nu w) 8 w.1.2.1]
  exact (pk_cnt ht (dnu d) (Nat.le_refl _)).2
abbrev rEq (Y a : Nat) : Prop := a = Y + 21 ∨ a = Y + 22 ∨ a = Y + 23
section YMS
variable {E : XG} {h : XH} {Y m u l o v k a : Nat} {d e : MD} {tp bt : Nat → Nat}
theorem YC.iw {h h' : XH} {B : Nat → Prop} (c : YC h Y d) (w : iw B h h') (h1 : ¬ B (Y + 21)) (h2 : ¬ B (Y + 22)) : YC h' Y d :=
  ⟨fun x hx => by rw [w.i _ h2]; exact c.1 x hx, fun x hx => by rw [w.i _ h1]; exact c.2 x hx⟩
theorem FX9_isEqual_o (A : YA h Y a m u l o v k d e tp bt) (gd : GD d) (ge : GD e) : xo (FX9_isEqual E Y (nI a) h) (fun r h' => r = bI (eqS d e tp bt) ∧ iw (rEq Y) h h') := by
  have ap : ∀ a, rEq Y a → a < Y + 1 ∨ Y + 8 < a := fun a q => by unfold rEq at q; omega
  have y := A.y
  have h8 := A.1.1
  have M := A.2.1.1
  have M' := A.2.1.2
  have wd := M.wd gd
  have we := M'.wd ge
  have hte : ∀ x, x < dnu d → tp x < 8 := fun x hx => by have := (A.2.2.1 x hx).2; have := we.1.2.1; omega
  have ha5 : arS d e tp bt ≤ 5 := by
    unfold arS
    repeat (first | (split <;> try omega) | omega)
  unfold FX9_isEqual
  refine xo_g y.1 (xo_eb (FX9_whyArrow_v A gd ge) ?_)
  by_cases c0 : arS d e tp bt = 0
  · have hw : whyS d = 0 ∧ whyS e = 0 := by
      unfold arS at c0
      by_cases q : whyS d ≠ 0 ∨ whyS e ≠ 0
      · rw [if_pos q] at c0; cases c0
      · exact ⟨Decidable.of_not_not fun z => q (Or.inl z), Decidable.of_not_not fun z => q (Or.inr z)⟩
    have L := LW_of wd gd hw.1
    have L' := LW_of we ge hw.2
    refine xo_t (by rw [c0]; rfl) ?_
    refine xo_g y.1 (xo_n y.r5 (xo_g ⟨y.k5, by rw [y.n5]; exact xin_nI h8 (by omega)⟩ (xo_lt (xo_g y.1 (xo_n y.r6 (xo_g ⟨y.k6, by rw [y.n6]; exact xin_nI h8 (by omega)⟩ (xo_lt ?_)))))))
    rw [xz_nI (by omega), A.1.2.1, A.1.2.2]
    refine xo_g y.1 (xo_eb (FX9_kernelOf_v M gd) ?_)
    refine xlp_inv (Po := fun m => xo m _) (fun i s h' => s = (toF d (kerS d) tp i, nI i) ∧ h' = h) (dnu d) (by have := wd.1.2.1; omega) (fun i s h' ag hi I again => ?_) ⟨rfl, rfl⟩
    obtain ⟨rfl, rfl⟩ := I
    have hn8 := wd.1.2.1
    refine xo_g y.1 (xo_eb (FX9_uppers_v M) ?_)
    by_cases e0 : i = dnu d
    · subst e0
      refine xo_t (Int32.le_refl _) (xo_eb FX9_ones_v (xo_eb FX9_ones_v (xo_jn ?_)))
      have k1 := cnt_le (kerS d) 8
      have k2 := cnt_le (kerS e) 8
      have k3 := cnt_le (toF d (kerS d) tp (dnu d)) 8
      by_cases c1 : cnt (toF d (kerS d) tp (dnu d)) 8 = cnt (kerS d) 8
      · have hp := (pk_iff (e := e) wd hte).mp c1
        refine xo_t (by rw [c1]) (xo_eb FX9_ones_v (xo_g y.1 (xo_eb (FX9_kernelOf_v M' ge) (xo_eb FX9_ones_v ?_))))
        by_cases c2 : cnt (kerS d) 8 = cnt (kerS e) 8
        · refine xo_t (by rw [c2]) (xo_g y.1 (xo_b (FX9_laysClasses_o M L) (fun v1 h2 q2 => ?_)))
          obtain ⟨rfl, i2, yc⟩ := q2
          have i2 : iw (rEq Y) h' h2 := i2.wide (fun a q => by unfold rCl at q; unfold rEq; omega)
          have cd8 := ccN_8 L
          have ce8 := ccN_8 L'
          have l8 := L.l8
          refine xlp_inv (Po := fun m => xo m _) (fun i s h3 => s = nI i ∧ iw (rEq Y) h' h3 ∧ YC h3 Y d ∧ ∀ g, g < i → xi h3 (Y + 23) g = nI (nmS d g)) (dnl d) (by omega) (fun i s h3 ag hi I again => ?_) ⟨rfl, i2, yc, fun g hg => absurd hg (Nat.not_lt_zero _)⟩
          obtain ⟨rfl, iW, yc3, r3⟩ := I
          have A3 := A.iw iW ap
          have y3 := A3.y
          refine xo_g y3.1 (xo_eb (FX9_lowers_v A3.2.1.1) ?_)
          by_cases e1 : i = dnl d
          · subst e1
            refine xo_t (Int32.le_refl _) (xo_g y3.1 (xo_b (FX9_laysClasses_o A3.2.1.2 L') (fun v1 h4 q4 => ?_)))
            obtain ⟨rfl, i4, yc4⟩ := q4
            have r4 : ∀ g, g < dnl d → xi h4 (Y + 23) g = nI (nmS d g) := fun g hg => by rw [i4.i _ (fun q => by unfold rCl at q; omega)]; exact r3 g hg
            have i4 : iw (rEq Y) h' h4 := iW.trans i4 (fun _ q => q) (fun a q => by unfold rCl at q; unfold rEq; omega)
            have A4 := A.iw i4 ap
            have y4 := A4.y
            have M4 := A4.2.1.1
            by_cases c3 : ccN d = ccN e
            · refine xo_t (by rw [c3]) ?_
              refine xo_e (v := bI (eqS d e tp bt)) (h := h4) ?_ ⟨rfl, i4⟩
              refine (xlp_any (fun i => nI i) h4 (dnl d) (fun a => anyB a fun b => decide (¬ nmS d a = nmS d b) && decide (nmS e (bt a) = nmS e (bt b))) (R1 := xv 0 h4) (R2 := xv 1 h4) (by omega) (fun a ha ag => ?_) (fun ag => ?_)).trans ?_
              · (try dsimp only); (rw [xg_t (y4.1), xb_eq (FX9_lowers_v M4), if_neg (nI_ge ha (by omega))])
                refine xlp_any (fun i => nI i) h4 a (fun b => decide (¬ nmS d a = nmS d b) && decide (nmS e (bt a) = nmS e (bt b))) (by omega) (fun b hb ag' => ?_) (fun ag' => ?_)
                · have hc2 : ¬ a ≤ b := by omega
                  have hb2 : b < dnl d := by omega
                  have q1 := (A4.2.2.2 a ha).2
                  have q2 := (A4.2.2.2 b hb2).2
                  have q3 := (L.nm ha).2.1
                  have q4 := (L.nm hb2).2.1
                  have q5 := (L'.nm q1).2.1
                  have q6 := (L'.nm q2).2.1
                  have l8' := L'.l8
                  by_cases c4 : nmS d a = nmS d b
                  · simp (disch := omega) only [↓xg, ↓reduceIte, ↓xjn_d, ↓xlt_d, eq_self, and_self, and_true, true_and, not_true, not_false_iff, ne_eq, true_or, or_true, or_false, false_or, nI_s, nI_leP, nI_eqP, hc2, y4.1, ↓xnn_e (y4.r23), y4.k23, y4.n23, xin_t, xz_nI, r4 a ha, r4 b hb2, c4]
                    simp
                  · simp (disch := omega) only [↓xg, ↓reduceIte, ↓xjn_d, ↓xlt_d, eq_self, and_self, and_true, true_and, not_true, not_false_iff, ne_eq, true_or, or_true, or_false, false_or, nI_s, nI_leP, nI_eqP, hc2, y4.1, ↓xnn_e (y4.r23), y4.k23, y4.n23, xin_t, xz_nI, r4 a ha, r4 b hb2, c4, ↓xnn_e (y4.r22), y4.k22, y4.n22, ↓xb_eq (FX9_bottomOf_v A4 ha), ↓xb_eq (FX9_bottomOf_v A4 hb2), yc4.1 _ q1, yc4.1 _ q2]
                    by_cases c5 : nmS e (bt a) = nmS e (bt b)
                    · simp [c4, c5, i1_0]
                    · simp [c4, c5, i1_0]
                · simp (disch := omega) only [↓xg, ↓reduceIte, ↓xjn_d, ↓xlt_d, eq_self, and_self, and_true, true_and, not_true, not_false_iff, ne_eq, true_or, or_true, or_false, false_or, nI_s, nI_leP, nI_eqP, Int32.le_refl]
              · simp (disch := omega) only [↓xg, ↓reduceIte, ↓xjn_d, ↓xlt_d, eq_self, and_self, and_true, true_and, not_true, not_false_iff, ne_eq, true_or, or_true, or_false, false_or, nI_s, nI_leP, nI_eqP, y4.1, ↓xb_eq (FX9_lowers_v M4), Int32.le_refl]
              · unfold eqS mtS
                rw [c0, c2, hp, c3]
                cases anyB (dnl d) _
                · simp [bI]
                · simp [bI]
            · refine xo_f (by rw [nI_eqP (by omega) (by omega)]; exact fun q => c3 q.symm) (xo_g (Or.inl rfl) (xo_v ⟨?_, i4⟩))
              unfold eqS mtS
              simp [c3, bI]
          · have hlt : i < dnl d := by omega
            refine xo_f (nI_ge hlt (by omega)) (xo_g y3.1 (xo_n y3.r23 (xo_g y3.1 (xo_n y3.r22 (xo_g ⟨y3.k22, by rw [y3.n22]; exact xin_nI (by omega) (by omega)⟩ (xo_g ⟨y3.k23, by rw [y3.n23]; exact xin_nI (by omega) (by omega)⟩ (xo_lt ?_)))))))
            rw [xz_nI (by omega), yc3.1 i hlt, nI_s]
            refine again hlt _ _ ⟨rfl, iW.yi _ _ _ (Or.inr (Or.inr rfl)), yc3.iw (iw_yi (A := fun a => a = Y + 23) _ _ _ _ rfl) (by omega) (by omega), fun g hg => ?_⟩
            by_cases eg : g = i
            · subst eg; exact xi_yi1 _ _ _ _
            · rw [xi_yi2 _ _ (Or.inr eg)]; exact r3 g (by omega)
        · refine xo_f (by rw [nI_eqP (by omega) (by omega)]; exact c2) (xo_g (Or.inl rfl) (xo_v ⟨?_, iw.refl _ _⟩))
          unfold eqS
          simp [c2, bI]
      · have hp : pkS d (kerS d) tp = true := by
          cases q : pkS d (kerS d) tp
          · exact absurd ((pk_iff (e := e) wd hte).mpr q) c1
          · rfl
        refine xo_f (by show ¬ nI (cnt (toF d (kerS d) tp (dnu d)) 8) = nI (cnt (kerS d) 8); rw [nI_eqP (by omega) (by omega)]; exact c1) (xo_g (Or.inl rfl) (xo_v ⟨?_, iw.refl _ _⟩))
        unfold eqS
        simp [hp, bI]
    · have hlt : i < dnu d := by omega
      have e1 : toF d (kerS d) tp (i + 1) = toF d (kerS d) tp i ||| (if mb (kerS d) i then sh (tp i) else 0) := rfl
      refine xo_f (nI_ge hlt (by omega)) (xo_eb (FX9_has_v (kerS d) (show i < 32 by omega)) (xo_jn ?_))
      cases hm : mb (kerS d) i
      · refine xo_t rfl (xo_lt ?_)
        dsimp only
        rw [nI_s]
        refine again hlt _ _ ⟨?_, rfl⟩
        rw [e1, hm]
        rfl
      · refine xo_f (by decide) (xo_g y.1 (xo_eb (FX9_topOf_v A hlt) (xo_lt ?_)))
        dsimp only
        rw [nI_s]
        refine again hlt _ _ ⟨?_, rfl⟩
        rw [e1, hm]
        rfl
  · refine xo_f (by rw [nI_eq0 (by omega)]; exact c0) (xo_g (Or.inl rfl) (xo_v ⟨?_, iw.refl _ _⟩))
    unfold eqS
    simp [c0, bI]
end YMS
