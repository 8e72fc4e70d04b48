/-! The World made: FX12_init's own cells. -/
set_option linter.unusedVariables false
section WIN
variable {E : XG} {h h' h0 : XH} {b A c d s n k : Nat} {l : List Nat} {D : Nat → Prop} {cc uu : Nat}
theorem xo_and {α : Type} {m : XP α} {P Q : α → XH → Prop} (a : xo m P) (b : xo m Q) : xo m (fun v h' => P v h' ∧ Q v h') := by
  obtain ⟨v, h1, e1, p⟩ := a
  obtain ⟨v2, h2, e2, q⟩ := b
  have e3 : xv v h1 = xv v2 h2 := e1.symm.trans e2
  unfold xv at e3
  injection e3 with e3
  injection e3 with e4 e5
  injection e4 with e4
  subst e4
  subst e5
  exact ⟨v, h1, e1, p, q⟩
/-- letters put where there is room make no cell -/
theorem app_str_t (q : SB h b A l) {i : Nat} (hi : i < nJS) (hl : l.length + (wJS i).length ≤ 900) (hr : l.length + (wJS i).length ≤ xn h A) : xo (FJ4_append_15ec4 E b i h) (fun _ h1 => xt h1 = xt h) := by
  obtain ⟨w1, w2, w3⟩ := wJS_all i hi
  have hA : xn h A < 4000 := by have := q.2.1.2.2; omega
  have nb : ¬ A = b := q.ne
  unfold FJ4_append_15ec4
  refine xo_g q.k (xo_b (Q := fun _ h1 => xt h1 = xt h) ?_ (fun v h1 z => xo_v z))
  unfold FJ5_append_cf1ce
  refine xo_g hi (xo_eb (show FJ0_length i h = xv (nI (wJS i).length) h from by unfold FJ0_length; rw [xg_t hi, w1]; rfl) (xo_g q.k (xo_g q.k ?_)))
  rw [q.i3, nI_a]
  refine xo_eb (v := ()) (h := h) (show FJ5_ensureCapacityInternal_d00df E b (nI (l.length + (wJS i).length)) h = xv () h from by
    unfold FJ5_ensureCapacityInternal_d00df
    rw [xg_t q.k, xnn_e q.r, xg_t q.ka, xg_t q.k, xlt_d, xjn_d, q.i1, ofNat_nI, sr0 _ hA, if_pos (sub_le0 (by omega) hr)]) ?_
  have infl : FJ5_inflateIfNeededFor_a7421 E b i h = xv () h := by
    unfold FJ5_inflateIfNeededFor_a7421
    rw [xjn_d, if_neg (by decide), xg_t q.k, xg_t hi, show FJ0_coder i h = xv 0 h from xg_t hi, xb_v, if_pos q.i1]
  refine xo_g q.k (xo_g q.k ?_)
  rw [q.i3]
  have gb : FJ0_getBytes_840e7 E i A (nI l.length) 0 h = xv () (yc h A (va_cpy (fun j => (bytJS.getD i []).getD j 0) (xi h A) 0 l.length (wJS i).length)) := by
    unfold FJ0_getBytes_840e7
    rw [xg_t hi, show FJ0_coder i h = xv 0 h from xg_t hi, xb_v, if_pos rfl, xg_t hi, xg_t hi, xg_t hi, w1, ofNat_nI, sl0 l.length (by omega), xz_nI (by omega), xz_nI (by omega), show (0 : Int32).toNatClampNeg = 0 from rfl]
    rw [xg_t ⟨⟨hi, q.ka⟩, ⟨by decide, nI_0le' (by omega), nI_0le' (by omega)⟩, by omega, hr, fun k hk => by rw [Nat.zero_add]; exact (w3 k hk).2.2⟩]
    rfl
  refine xo_eb (show FJ5_putStringAt_47b60 E b (nI l.length) i h = xv () (yc h A (va_cpy (fun j => (bytJS.getD i []).getD j 0) (xi h A) 0 l.length (wJS i).length)) from by
    unfold FJ5_putStringAt_47b60
    rw [xg_t q.k, infl, xb_v, xg_t q.k, xnn_e q.r, xg_t q.k, xg_t hi, q.i1, gb, xb_v]) ?_
  exact xo_g q.k (xo_g q.k (xo_lt (xo_v rfl)))
theorem init_str_t (k : xk h b = 24) (z : ∀ j, xi h b j = 0) (tb : b < xt h) {i : Nat} (hi : i < nJS) (hl : (wJS i).length ≤ 24) : xo (FJ4_init_a7421 E b i h) (fun _ h1 => xt h1 = xt h + 1) := by
  obtain ⟨w1, w2, w3⟩ := wJS_all i hi
  unfold FJ4_init_a7421
  refine xo_b (Q := fun _ h1 => xt h1 = xt h + 1) ?_ (fun _ h1 q => xo_v q)
  unfold FJ5_init_a7421
  refine xo_g hi (xo_eb (show FJ0_length i h = xv (nI (wJS i).length) h from by unfold FJ0_length; rw [xg_t hi, w1]; rfl) (xo_jn (xo_f ?_ ?_)))
  · rw [show (2147483631 : Int32) = nI 2147483631 from rfl, nI_leP (by omega) (by omega)]; omega
  · rw [show nI (wJS i).length + 16 = nI ((wJS i).length + 16) from nI_a _ 16]
    refine xo_g hi (xo_eb (show FJ0_coder i h = xv 0 h from xg_t hi) (xo_g ⟨k, rfl⟩ (xo_wi (fun h7 e7 => xo_t rfl (xo_g ⟨nI_0le' (by omega), by rw [xz_nI (by omega)]; omega⟩ ?_)))))
    rw [xz_nI (by omega)]
    refine xo_al (fun h9 e9 => ?_)
    have t7 : xt h7 = xt h := by rw [e7]; rfl
    have nb : ¬ b = xt h7 := by omega
    have k9 : xk h9 b = 24 := by rw [e9, xk_ya, if_neg nb, e7]; exact k
    refine xo_g k9 (xo_wr (fun h10 e10 => ?_))
    have k10 : xk h10 b = 24 := by rw [e10]; exact k9
    have i10 : ∀ j, xi h10 b j = 0 := fun j => by
      rw [e10, xi_yr, e9, xi_ya, if_neg nb, e7, xi_yi]
      split
      · rfl
      · exact z j
    have n10 : xn h10 (xt h7) = (wJS i).length + 16 := by rw [e10, xn_yr, e9, xn_ya, if_pos rfl]
    have t10 : xt h10 = xt h + 1 := by rw [e10, xt_yr, e9, xt_ya]; omega
    have q : SB h10 b (xt h7) [] := ⟨⟨k10, by rw [e10, xr_yr, if_pos ⟨rfl, rfl⟩], i10 1, i10 3⟩, ⟨by rw [e10, xk_yr, e9, xk_ya, if_pos rfl], Nat.zero_le _, by rw [n10]; show _ ≤ 2 * 0 + 40; omega⟩, ⟨by omega, by omega⟩, fun j hj => absurd hj (Nat.not_lt_zero _), fun j hj => by rw [e10, xi_yr, e9, xi_ya, if_pos rfl]; decide⟩
    refine xo_g k10 (xo_b (Q := fun v h1 => xt h1 = xt h + 1) ?_ (fun _ h1 q => xo_v q))
    unfold FJ4_append_cf1ce
    refine xo_g k10 (xo_b (app_str_t q hi (by show 0 + _ ≤ 900; omega) (by rw [n10]; show 0 + _ ≤ _; omega)) (fun v h1 e => xo_v (e.trans t10)))
/-- a reference more in the World's own cell, to a new array -/
def WO (h0 : XH) (c : Nat) (j : Nat) (h : XH) : Prop := (xk h c = 23 ∧ ∀ i, xi h c i = 0) ∧ xt h = c + 3 + j ∧ xr h c 0 = some (c + 1) ∧ (∀ i, i < j → xr h c (i + 1) = some (c + 3 + i) ∧ xk h (c + 3 + i) = [19, 20, 26, 12].getD i 0 ∧ xn h (c + 3 + i) = [6, 6, 8, 3].getD i 0 ∧ ∀ x, xi h (c + 3 + i) x = 0) ∧ ∃ A, SB h (c + 1) A (wJS 14) ∧ c < A
theorem WO_s {j g m : Nat} (w : WO h0 c j h) (hj : j < 4) (hg : g = [19, 20, 26, 12].getD j 0) (hm : m = [6, 6, 8, 3].getD j 0) {h1 : XH} (e1 : h1 = ya h g m) : xk h1 c = 23 ∧ ∀ h2, h2 = yr h1 c (j + 1) (some (xt h)) → WO h0 c (j + 1) h2 := by
  obtain ⟨⟨k, z⟩, t, r0, R, A, sb, hA⟩ := w
  have nc : ¬ c = xt h := by omega
  have s1 : ∀ a, a < xt h → smC a h h1 := fun a ha => by rw [e1]; exact smC_ya ha
  have k1 : xk h1 c = 23 := (s1 c (by omega)).1.1.trans k
  refine ⟨k1, fun h2 e2 => ?_⟩
  have s2 : ∀ a, a < xt h → ¬ a = c → smC a h h2 := fun a ha na => by rw [e2]; exact smC_t (s1 a ha) (smC_yr na)
  have t2 : xt h2 = c + 3 + (j + 1) := by rw [e2, xt_yr, e1, xt_ya]; omega
  have ne : ¬ xt h = c := by omega
  have kA := sb.ka
  have nA : ¬ A = c := fun y => by rw [y] at kA; omega
  refine ⟨⟨by rw [e2]; exact k1, fun i => by rw [e2, xi_yr]; exact ((s1 c (by omega)).2.1 i).trans (z i)⟩, t2, ?_, fun i hi => ?_, A, SB_sm sb (s2 _ sb.2.2.1.1 (by omega)) (s2 _ sb.2.2.1.2 nA) (by omega), hA⟩
  · rw [e2, xr_yr2 _ _ (Or.inr (by omega))]
    exact ((s1 c (by omega)).2.2.2 0).trans r0
  · by_cases ei : i = j
    · subst ei
      refine ⟨by rw [e2, xr_yr1, t], ?_, ?_, fun x => ?_⟩
      · rw [← t, e2, xk_yr, e1, xk_ya, if_pos rfl]; exact hg
      · rw [← t, e2, xn_yr, e1, xn_ya, if_pos rfl]; exact hm
      · rw [← t, e2, xi_yr, e1, xi_ya, if_pos rfl]
    · obtain ⟨R1, R2, R3, R4⟩ := R i (by omega)
      have s := s2 (c + 3 + i) (by omega) (by omega)
      refine ⟨?_, s.1.1.trans R2, s.1.2.trans R3, fun x => (s.2.1 x).trans (R4 x)⟩
      rw [e2, xr_yr2 _ _ (Or.inr (by omega))]
      exact ((s1 c (by omega)).2.2.2 _).trans R1
theorem WC_0 (w : WO h0 c 4 h) (dr : DR h d s n k) (hd : d < c) (hs : s < d) : WC h c (fun _ => 0) (fun _ => 0) (fun _ => 0) S0 T0 d s n k (wJS 14) 0 (fun _ => 0) := by
  obtain ⟨⟨kc, z⟩, t, r0, R, A, sb, hA⟩ := w
  have R0 := R 0 (by omega)
  have R1 := R 1 (by omega)
  have R2 := R 2 (by omega)
  have R3 := R 3 (by omega)
  exact ⟨⟨⟨⟨⟨kc, ⟨R0.1, R1.1, R2.1, R3.1⟩, z 5, z 6, z 7⟩, ⟨R0.2.1, R0.2.2.1⟩, ⟨R1.2.1, R1.2.2.1⟩, ⟨R2.2.1, R2.2.2.1⟩, R3.2.1, R3.2.2.1⟩, fun g hg => absurd hg (Nat.not_lt_zero _), fun g hg => absurd hg (Nat.not_lt_zero _), fun g hg => absurd hg (Nat.not_lt_zero _), fun j _ => R3.2.2.2 j, S0_ws, S0_wt⟩, fun g hg => absurd hg (Nat.not_lt_zero _), fun g hg => absurd hg (Nat.not_lt_zero _), fun g hg => absurd hg (Nat.not_lt_zero _), by omega⟩, ⟨dr, hd, hs⟩, ⟨r0, A, sb, hA⟩, RD_0, fun g hg => absurd hg (Nat.not_lt_zero _), fun g hg => absurd hg (Nat.not_lt_zero _), fun g hg => absurd hg (Nat.not_lt_zero _)⟩
end WIN
