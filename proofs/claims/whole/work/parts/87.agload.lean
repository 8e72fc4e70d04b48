/-! load: class and reference answer alike. -/
set_option linter.unusedVariables false
section AGL
variable {E : XG} {h : XH} {X Y O : Nat} {Z : ZD}
theorem ag_load (j : JJ h X Y O Z) (p : Int32) : AGw X Y (cmT [1, 2]) h Z (FX8_load E X p) (FX9_load E Y p) := by
  have jj := j
  obtain ⟨z, ⟨d1, d2, d3⟩, -, ⟨w, s, f, x⟩, y⟩ := j
  have z900 := z.2.2.2.2.1.1
  have x9 : xi h X 1 = nI (zfl Z) := x.2.2.1.1
  cases hp : inr p (zfl Z + 1)
  · refine AGw_z (AGz_x jj (AG_x 1 1 0 ?_ (fun h' y => ?_) (by decide)))
    · have F : FX8_demandThere E 0 h = xx 1 h := if_pos rfl
      unfold FX8_load
      rw [xjn_d, xjn_d]
      rcases inr_no hp with c | ⟨c1, c2⟩
      · rw [if_pos c]
        dsimp only
        rw [F]
        rfl
      · have c2' : zfl Z < 2 ^ 31 := by omega
        have c3 : xi h X 1 < p := by
          rw [x9]
          rw [Int32.le_iff_toInt_le] at c2
          rw [Int32.lt_iff_toInt_lt]
          have e1 : (nI (zfl Z + 1)).toInt = zfl Z + 1 := nI_toInt (by omega)
          have e2 : (nI (zfl Z)).toInt = zfl Z := nI_toInt (by omega)
          omega
        rw [if_neg c1, xg_t x.k, if_pos c3]
        dsimp only
        rw [F]
        rfl
    · have y0 := y.t 0
      have e0 : xi (yi h' Y 0 0) Y 0 = 0 := xi_yi1 _ _ _ _
      have e17 : xi (yi h' Y 0 0) Y 17 = nI (zfl Z) := y0.2.2.2.2.1.1
      have hi : FX9_in E p 0 (nI (zfl Z)) (yi h' Y 0 0) = xv (bI false) (yi h' Y 0 0) := by
        have e : nI (zfl Z) = nI (zfl Z + 1) - 1 := by rw [nI_p _ (by omega) (by omega)]; rfl
        rw [e, FX9_in_v p (by omega), hp]
      unfold FX9_load
      (try dsimp only); (rw [xg_t (y.l.1), xlt_d, xg_t (y0.l.1), e17, xb_eq (hi), xjn_d, if_pos (show bI false = (0 : Int32) from rfl)])
      (try dsimp only); (rw [xg_t (y0.l.1), xb_eq (FX9_refuse_1 (E := E) y.l (show ¬ (1 : Int32) = 0 by decide)), if_neg (show ¬ (1 : Int32) = 0 by decide)])
      rfl
  · obtain ⟨n, hn, rfl⟩ := inr_of (by omega) hp
    have hn : n ≤ zfl Z := by omega
    have C := C_load (E := E) x z (by omega) hn
    have R := fun (h' : XH) (y : YI h' Y Z) => R_load (E := E) y z hn
    cases hE : eText (zBF Z n) with
    | some e =>
      rw [hE] at C
      refine ⟨.inr 2, 2, 0, zEr Z e.1 e.2, zEr_wz z _ _, ?_, fun h' y => ?_, Or.inr ⟨2, rfl, by decide, rfl, by decide, by decide⟩⟩
      · obtain ⟨r', h1, e1, q1, q2, q3⟩ := C
        exact ⟨r', h1, e1, q2, q1, q3⟩
      · have R := R h' y
        rw [hE] at R
        exact xo_w R (fun v h2 q => ⟨q.2.1, q.1, q.2.2.1, q.2.2.2⟩)
    | none =>
      rw [hE] at C
      have wa := tkE_wa hE
      refine ⟨.inl (nI (snm (paZ (tkE (zBF Z n))))), 0, nI (snm (paZ (tkE (zBF Z n)))), zLd Z (paZ (tkE (zBF Z n))) (paT (tkE (zBF Z n))), zLd_wz z wa.2.2.2 _, ?_, fun h' y => ?_, Or.inl ⟨_, rfl, rfl, rfl⟩⟩
      · obtain ⟨r', h1, e1, q1, q2, q3⟩ := C
        exact ⟨r', h1, e1, q2, q1, q3⟩
      · have R := R h' y
        rw [hE] at R
        exact xo_w R (fun v h2 q => ⟨q.2.1, q.1, q.2.2.1, q.2.2.2⟩)
end AGL
