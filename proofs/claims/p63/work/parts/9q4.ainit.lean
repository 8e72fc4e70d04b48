/-! The World made: an Arrow's constructor. -/
set_option linter.unusedVariables false
section AIN
variable {E : XG} {h h' h0 : XH} {A f o nt nb : Nat}
theorem ainit_o (hA : xt h = A + 1) (kA : xk h A = 10) (hnt : nt ≤ 8) (hnb : nb ≤ 8) : xo (FX9_init E A (nI f) (nI o) (nI nt) (nI nb) h) (fun _ h' => lA h' A f o nt nb (fun _ => 0) (fun _ => 0) ∧ xt h' = A + 3 ∧ Gr (fun a => a = A) 2 (nt + nb) h h') := by
  unfold FX9_init
  refine xo_g kA (xo_wi (fun h1 e1 => xo_g (by rw [e1]; exact kA) (xo_wi (fun h2 e2 => xo_g ⟨nI_0le' (by omega), by rw [xz_nI (by omega)]; omega⟩ ?_))))
  rw [xz_nI (by omega)]
  have g2 : Gr (fun a => a = A) 0 0 h h2 := by
    have a1 := Gr_yi (a := A) (k := 0) (x := nI f) (Gr_refl (fun a => a = A) h) (by omega) (fun _ => rfl)
    rw [← e1] at a1
    have a2 := Gr_yi (a := A) (k := 1) (x := nI o) a1 (by rw [e1, xt_yi]; omega) (fun _ => rfl)
    rw [← e2] at a2
    exact a2
  have t2 : xt h2 = A + 1 := by rw [e2, e1]; exact hA
  have k2 : xk h2 A = 10 := by rw [e2, e1]; exact kA
  have i2 : xi h2 A 0 = nI f ∧ xi h2 A 1 = nI o := ⟨by rw [e2, xi_yi2 _ _ (Or.inr (by decide)), e1, xi_yi1], by rw [e2, xi_yi1]⟩
  clear e1 e2
  refine xo_al (fun h4 e4 => ?_)
  rw [t2]
  have g4 := Gr_ya g2 12 nt
  rw [← e4] at g4
  have k4 : xk h4 A = 10 := by rw [e4, xk_ya, if_neg (by omega)]; exact k2
  have b4 : (xk h4 (A + 1) = 12 ∧ xn h4 (A + 1) = nt) ∧ ∀ j, xi h4 (A + 1) j = 0 := ⟨⟨by rw [e4, xk_ya, if_pos t2.symm], by rw [e4, xn_ya, if_pos t2.symm]⟩, fun j => by rw [e4, xi_ya, if_pos t2.symm]⟩
  have i4 : ∀ j, xi h4 A j = xi h2 A j := fun j => by rw [e4, xi_ya, if_neg (by omega)]
  have t4 : xt h4 = A + 2 := by rw [e4, xt_ya]; omega
  refine xo_g k4 (xo_wr (fun h5 e5 => xo_g ⟨nI_0le' (by omega), by rw [xz_nI (by omega)]; omega⟩ ?_))
  rw [xz_nI (by omega)]
  have g5 := Gr_yr (a := A) (k := 2) (x := some (A + 1)) g4 (fun _ => rfl)
  rw [← e5] at g5
  have t5 : xt h5 = A + 2 := by rw [e5, xt_yr]; exact t4
  have k5 : xk h5 A = 10 := by rw [e5]; exact k4
  have b5 : (xk h5 (A + 1) = 12 ∧ xn h5 (A + 1) = nt) ∧ ∀ j, xi h5 (A + 1) j = 0 := by rw [e5]; exact b4
  have i5 : ∀ j, xi h5 A j = xi h2 A j := fun j => by rw [e5, xi_yr]; exact i4 j
  have r5 : xr h5 A 2 = some (A + 1) := by rw [e5, xr_yr1]
  clear e4 e5
  refine xo_al (fun h7 e7 => ?_)
  rw [t5]
  have g7 := Gr_ya g5 12 nb
  rw [← e7] at g7
  have k7 : xk h7 A = 10 := by rw [e7, xk_ya, if_neg (by omega)]; exact k5
  refine xo_g k7 (xo_wr (fun h8 e8 => xo_v ?_))
  have g8 := Gr_yr (a := A) (k := 3) (x := some (A + 2)) g7 (fun _ => rfl)
  rw [← e8] at g8
  have b7 : (xk h7 (A + 1) = 12 ∧ xn h7 (A + 1) = nt) ∧ ∀ j, xi h7 (A + 1) j = 0 := ⟨⟨by rw [e7, xk_ya, if_neg (by omega)]; exact b5.1.1, by rw [e7, xn_ya, if_neg (by omega)]; exact b5.1.2⟩, fun j => by rw [e7, xi_ya, if_neg (by omega)]; exact b5.2 j⟩
  have d7 : (xk h7 (A + 2) = 12 ∧ xn h7 (A + 2) = nb) ∧ ∀ j, xi h7 (A + 2) j = 0 := ⟨⟨by rw [e7, xk_ya, if_pos t5.symm], by rw [e7, xn_ya, if_pos t5.symm]⟩, fun j => by rw [e7, xi_ya, if_pos t5.symm]⟩
  have i7 : ∀ j, xi h7 A j = xi h2 A j := fun j => by rw [e7, xi_ya, if_neg (by omega)]; exact i5 j
  have r7 : xr h7 A 2 = some (A + 1) := by rw [e7, xr_ya, if_neg (by omega)]; exact r5
  refine ⟨⟨⟨by rw [e8]; exact k7, ⟨by rw [e8, xi_yr, i7]; exact i2.1, by rw [e8, xi_yr, i7]; exact i2.2⟩, by rw [e8, xr_yr2 _ _ (Or.inr (by decide))]; exact r7, by rw [e8, xr_yr1]⟩, ⟨by rw [e8]; exact b7.1, fun x _ => by rw [e8, xi_yr]; exact b7.2 x⟩, by rw [e8]; exact d7.1, fun x _ => by rw [e8, xi_yr]; exact d7.2 x⟩, by rw [e8, xt_yr, e7, xt_ya]; omega, ?_⟩
  have q : 0 + nt + nb = nt + nb := by omega
  rw [← q]
  exact g8
end AIN
