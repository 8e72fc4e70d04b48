/-! Changes, the reference: the state's cells, states kept. -/
set_option linter.unusedVariables false
theorem WS.b8 {S : SD} (W : WS S) {m : Nat} (hm : m < snm S) : m < 6 ∧ nuS S m ≤ 8 ∧ nlS2 S m ≤ 8 := by
  obtain ⟨⟨v1, v2, v3⟩, v4, v5, v6⟩ := W
  exact ⟨by omega, (v4 _ (v5 m hm).1).1.2, (v4 _ (v5 m hm).2).1.2⟩
theorem WS.a8 {S : SD} (W : WS S) {a : Nat} (ha : a < sna S) : a < 8 ∧ nuS S (saf S a) ≤ 8 ∧ nlS2 S (saf S a) ≤ 8 := by
  have b := W.b8 (W.2.2.2 a ha).1
  exact ⟨by have := W.1; omega, b.2⟩
section TRS
variable {E : XG} {h h' : XH} {R R' o o' : Nat} {S : SD} {T : ST}
theorem TR_cp (W : WS S) (t : TR h R o S T) (e : ∀ j, j < 563 → xi h' R' (o' + j) = xi h R (o + j)) : TR h' R' o' S T := by
  refine ⟨fun m a q1 q2 => ?_, fun m g a q1 q2 q3 => ?_, fun a x q1 q2 => ?_, fun a x q1 q2 => ?_, fun x q1 => ?_⟩
  · have := W.b8 q1; rw [e _ (by omega)]; exact t.1 m a q1 q2
  · have := W.b8 q1; rw [e _ (by omega)]; exact t.2.1 m g a q1 q2 q3
  · have := W.a8 q1; rw [e _ (by omega)]; exact t.2.2.1 a x q1 q2
  · have := W.a8 q1; rw [e _ (by omega)]; exact t.2.2.2.1 a x q1 q2
  · rw [e _ (by omega)]; exact t.2.2.2.2 x q1
theorem TR_bd (W : WS S) (t : TR h R 0 S T) {m a : Nat} (hm : m < snm S) (ha : a < nuS S m) (v : Nat) : TR (yi h R (8 * m + a) (nI v)) R 0 S (Tbd T m a v) := by
  have w := W.b8 hm
  refine ⟨fun m' a' q1 q2 => ?_, fun m g a q1 q2 q3 => ?_, fun a x q1 q2 => ?_, fun a x q1 q2 => ?_, fun x q1 => ?_⟩
  · have := W.b8 q1
    show _ = nI (if m' = m ∧ a' = a then v else tbd T m' a')
    by_cases e : m' = m ∧ a' = a
    · rw [if_pos e, e.1, e.2, Nat.zero_add, xi_yi1]
    · rw [if_neg e, xi_yi2 _ _ (Or.inr (by omega))]; exact t.1 m' a' q1 q2
  · rw [xi_yi2 _ _ (Or.inr (by omega))]; exact t.2.1 m g a q1 q2 q3
  · rw [xi_yi2 _ _ (Or.inr (by omega))]; exact t.2.2.1 a x q1 q2
  · rw [xi_yi2 _ _ (Or.inr (by omega))]; exact t.2.2.2.1 a x q1 q2
  · rw [xi_yi2 _ _ (Or.inr (by omega))]; exact t.2.2.2.2 x q1
theorem TR_ac (W : WS S) (t : TR h R 0 S T) {m g a : Nat} (hm : m < snm S) (hg : g < nlS2 S m) (ha : a < nuS S m) (v : Nat) : TR (yi h R (48 + 64 * m + 8 * g + a) (nI v)) R 0 S (Tac T m g a v) := by
  have w := W.b8 hm
  refine ⟨fun m' a' q1 q2 => ?_, fun m' g' a' q1 q2 q3 => ?_, fun a x q1 q2 => ?_, fun a x q1 q2 => ?_, fun x q1 => ?_⟩
  · have := W.b8 q1
    rw [xi_yi2 _ _ (Or.inr (by omega))]; exact t.1 m' a' q1 q2
  · have := W.b8 q1
    show _ = nI (if m' = m ∧ g' = g ∧ a' = a then v else tac T m' g' a')
    by_cases e : m' = m ∧ g' = g ∧ a' = a
    · rw [if_pos e, e.1, e.2.1, e.2.2, Nat.zero_add, xi_yi1]
    · rw [if_neg e, xi_yi2 _ _ (Or.inr (by omega))]; exact t.2.1 m' g' a' q1 q2 q3
  · rw [xi_yi2 _ _ (Or.inr (by omega))]; exact t.2.2.1 a x q1 q2
  · rw [xi_yi2 _ _ (Or.inr (by omega))]; exact t.2.2.2.1 a x q1 q2
  · rw [xi_yi2 _ _ (Or.inr (by omega))]; exact t.2.2.2.2 x q1
theorem TR_tp (W : WS S) (t : TR h R 0 S T) {a x : Nat} (ha : a < sna S) (hx : x < nuS S (saf S a)) (v : Nat) : TR (yi h R (432 + 8 * a + x) (nI v)) R 0 S (Ttp T a x v) := by
  have w := W.a8 ha
  refine ⟨fun m' a' q1 q2 => ?_, fun m' g' a' q1 q2 q3 => ?_, fun a' x' q1 q2 => ?_, fun a' x' q1 q2 => ?_, fun x q1 => ?_⟩
  · have := W.b8 q1
    rw [xi_yi2 _ _ (Or.inr (by omega))]; exact t.1 m' a' q1 q2
  · have := W.b8 q1
    rw [xi_yi2 _ _ (Or.inr (by omega))]; exact t.2.1 m' g' a' q1 q2 q3
  · have := W.a8 q1
    show _ = nI (if a' = a ∧ x' = x then v else ttp T a' x')
    by_cases e : a' = a ∧ x' = x
    · rw [if_pos e, e.1, e.2, Nat.zero_add, xi_yi1]
    · rw [if_neg e, xi_yi2 _ _ (Or.inr (by omega))]; exact t.2.2.1 a' x' q1 q2
  · rw [xi_yi2 _ _ (Or.inr (by omega))]; exact t.2.2.2.1 a' x' q1 q2
  · rw [xi_yi2 _ _ (Or.inr (by omega))]; exact t.2.2.2.2 x q1
theorem TR_bt (W : WS S) (t : TR h R 0 S T) {a x : Nat} (ha : a < sna S) (hx : x < nlS2 S (saf S a)) (v : Nat) : TR (yi h R (496 + 8 * a + x) (nI v)) R 0 S (Tbt T a x v) := by
  have w := W.a8 ha
  refine ⟨fun m' a' q1 q2 => ?_, fun m' g' a' q1 q2 q3 => ?_, fun a' x' q1 q2 => ?_, fun a' x' q1 q2 => ?_, fun x q1 => ?_⟩
  · have := W.b8 q1
    rw [xi_yi2 _ _ (Or.inr (by omega))]; exact t.1 m' a' q1 q2
  · have := W.b8 q1
    rw [xi_yi2 _ _ (Or.inr (by omega))]; exact t.2.1 m' g' a' q1 q2 q3
  · have := W.a8 q1
    rw [xi_yi2 _ _ (Or.inr (by omega))]; exact t.2.2.1 a' x' q1 q2
  · have := W.a8 q1
    show _ = nI (if a' = a ∧ x' = x then v else tbt T a' x')
    by_cases e : a' = a ∧ x' = x
    · rw [if_pos e, e.1, e.2, Nat.zero_add, xi_yi1]
    · rw [if_neg e, xi_yi2 _ _ (Or.inr (by omega))]; exact t.2.2.2.1 a' x' q1 q2
  · rw [xi_yi2 _ _ (Or.inr (by omega))]; exact t.2.2.2.2 x q1
theorem TR_cc (W : WS S) (t : TR h R 0 S T) (c : Nat → Int32) (e : ∀ j, j < 560 → xi h' R j = xi h R j) (hc : ∀ x, x < 3 → xi h' R (560 + x) = c x) : TR h' R 0 S (Tcc T c) := by
  refine ⟨fun m a q1 q2 => ?_, fun m g a q1 q2 q3 => ?_, fun a x q1 q2 => ?_, fun a x q1 q2 => ?_, fun x q1 => ?_⟩
  · have := W.b8 q1; rw [e _ (by omega)]; exact t.1 m a q1 q2
  · have := W.b8 q1; rw [e _ (by omega)]; exact t.2.1 m g a q1 q2 q3
  · have := W.a8 q1; rw [e _ (by omega)]; exact t.2.2.1 a x q1 q2
  · have := W.a8 q1; rw [e _ (by omega)]; exact t.2.2.2.1 a x q1 q2
  · rw [Nat.zero_add]; exact hc x q1
end TRS
section REF
variable {E : XG} {h h' : XH} {Y : Nat} {Z : ZD} {B : Nat → Prop}
theorem YI_set {T' : ST} {n' : Nat} {u' : Nat → ST} {k' : Nat → Option ST} (y : YI h Y Z) (i : iw B h h') (hB : ∀ a, B a → a = Y ∨ a = Y + 8 ∨ a = Y + 9 ∨ a = Y + 10) (hk : ∀ k, k ≠ 14 → k ≠ 0 → xi h' Y k = xi h Y k) (W : WT (zS Z) T') (t : TR h' (Y + 8) 0 (zS Z) T') (u : YU h' Y (zset Z T' n' u' k')) (k : YK h' Y (zset Z T' n' u' k')) : YI h' Y (zset Z T' n' u' k') := by
  obtain ⟨⟨⟨⟨y0, -⟩, ⟨c1, c2, c3⟩, y1, -⟩, y2⟩, ⟨y3, y4, y5⟩, -, -, ⟨y9, y10⟩, y11, y12⟩ := y
  have nb : ∀ a, (Y + 1 ≤ a ∧ a < Y + 8) ∨ Y + 10 < a → ¬ B a := fun a q1 q => by
    have := hB a q
    omega
  refine ⟨⟨⟨⟨y0, W⟩, ⟨?_, ?_, ?_⟩, y1.iw i (fun a q => by have := hB a q; omega), t⟩, fun s k j hs hk hj => ?_⟩, ⟨?_, ?_, ?_⟩, u, k, ⟨?_, fun j hj => ?_⟩, ?_, fun j hj => ?_⟩
  · rw [hk _ (by decide) (by decide)]; exact c1
  · rw [hk _ (by decide) (by decide)]; exact c2
  · rw [hk _ (by decide) (by decide)]; exact c3
  · rw [i.i _ (nb _ (by omega))]; exact y2 s k j hs hk hj
  · rw [hk _ (by decide) (by decide)]; exact y3
  · rw [hk _ (by decide) (by decide)]; exact y4
  · rw [hk _ (by decide) (by decide)]; exact y5
  · rw [hk _ (by decide) (by decide)]; exact y9
  · rw [i.i _ (nb _ (by omega))]; exact y10 j hj
  · rw [hk _ (by decide) (by decide)]; exact y11
  · rw [i.i _ (nb _ (by omega))]; exact y12 j hj
theorem YU_iw (u : YU h Y Z) (i : iw B h h') (hB : ¬ B (Y + 9)) (h1 : xi h' Y 14 = xi h Y 14) : YU h' Y Z := ⟨h1.trans u.1, fun j hj => (u.2 j hj).iw i hB⟩
theorem YK_iw (u : YK h Y Z) (i : iw B h h') (hB : ¬ B (Y + 9) ∧ ¬ B (Y + 10)) : YK h' Y Z := fun j hj => ⟨by rw [i.i _ hB.2]; exact (u j hj).1, fun T hT => ((u j hj).2 T hT).iw i hB.1⟩
/-- only T has changed -/
theorem YI_T {T' : ST} (y : YI h Y Z) (i : iw (fun a => a = Y + 8) h h') (W : WT (zS Z) T') (t : TR h' (Y + 8) 0 (zS Z) T') : YI h' Y (zsT Z T') :=
  YI_set y i (fun a q => Or.inr (Or.inl q)) (fun k _ _ => i.i _ (by omega)) W t (YU_iw (Z := Z) y.2.2.1 i (by omega) (i.i _ (by omega))) (YK_iw (Z := Z) y.2.2.2.1 i ⟨by omega, by omega⟩)
theorem i563 (p i : Nat) : (563 : Int32) * nI p + nI i = nI (563 * p + i) := by rw [show (563 : Int32) = nI 563 from rfl, nI_m, nI_a]
theorem FX9_keeps_o (y : YL h Y) {p : Nat} (hp : p < 10) : xo (FX9_keeps E Y (nI p) h) (fun _ h' => iw (fun a => a = Y + 9) h h' ∧ (∀ j, j < 563 → xi h' (Y + 9) (563 * p + j) = xi h (Y + 8) j) ∧ ∀ k, k < 563 * p ∨ 563 * p + 563 ≤ k → xi h' (Y + 9) k = xi h (Y + 9) k) := by
  unfold FX9_keeps
  refine xlp_inv (Po := fun m => xo m _) (fun i s h' => s = nI i ∧ iw (fun a => a = Y + 9) h h' ∧ (∀ j, j < i → xi h' (Y + 9) (563 * p + j) = xi h (Y + 8) j) ∧ ∀ k, k < 563 * p ∨ 563 * p + i ≤ k → xi h' (Y + 9) k = xi h (Y + 9) k) 563 (by omega) (fun i s h1 ag hi I again => ?_) ⟨rfl, iw.refl _ _, fun j hj => absurd hj (Nat.not_lt_zero _), fun _ _ => rfl⟩
  obtain ⟨rfl, i1, c1, d1⟩ := I
  have y1 := y.iw i1
  by_cases e : i = 563
  · subst e
    exact xo_t (Int32.le_refl _) (xo_v ⟨i1, c1, d1⟩)
  · have hlt : i < 563 := by omega
    refine xo_f (by rw [show (563 : Int32) = nI 563 from rfl, nI_leP (by omega) (by omega)]; omega) (xo_g y1.1 (xo_n y1.r9 (xo_g y1.1 (xo_n y1.r8 (xo_g (y1.g8 hlt) ?_)))))
    rw [i563]
    refine xo_g (y1.g9 (by omega)) (xo_lt ?_)
    rw [xz_nI (by omega), xz_nI (by omega), nI_s]
    refine again hlt _ _ ⟨rfl, i1.yi _ _ _ rfl, fun j hj => ?_, fun k hk => ?_⟩
    · by_cases q : j = i
      · subst q
        rw [xi_yi1, i1.i _ (by omega)]
      · rw [xi_yi2 _ _ (Or.inr (by omega))]; exact c1 j (by omega)
    · rw [xi_yi2 _ _ (Or.inr (by omega))]; exact d1 k (by omega)
theorem FX9_fetches_o (y : YL h Y) {p : Nat} (hp : p < 10) : xo (FX9_fetches E Y (nI p) h) (fun _ h' => iw (fun a => a = Y + 8) h h' ∧ ∀ j, j < 563 → xi h' (Y + 8) j = xi h (Y + 9) (563 * p + j)) := by
  unfold FX9_fetches
  refine xlp_inv (Po := fun m => xo m _) (fun i s h' => s = nI i ∧ iw (fun a => a = Y + 8) h h' ∧ ∀ j, j < i → xi h' (Y + 8) j = xi h (Y + 9) (563 * p + j)) 563 (by omega) (fun i s h1 ag hi I again => ?_) ⟨rfl, iw.refl _ _, fun j hj => absurd hj (Nat.not_lt_zero _)⟩
  obtain ⟨rfl, i1, c1⟩ := I
  have y1 := y.iw i1
  by_cases e : i = 563
  · subst e
    exact xo_t (Int32.le_refl _) (xo_v ⟨i1, c1⟩)
  · have hlt : i < 563 := by omega
    refine xo_f (by rw [show (563 : Int32) = nI 563 from rfl, nI_leP (by omega) (by omega)]; omega) (xo_g y1.1 (xo_n y1.r8 (xo_g y1.1 (xo_n y1.r9 ?_))))
    rw [i563]
    refine xo_g (y1.g9 (by omega)) (xo_g (y1.g8 hlt) (xo_lt ?_))
    rw [xz_nI (by omega), xz_nI (by omega), nI_s]
    refine again hlt _ _ ⟨rfl, i1.yi _ _ _ rfl, fun j hj => ?_⟩
    by_cases q : j = i
    · subst q
      rw [xi_yi1, i1.i _ (by omega)]
    · rw [xi_yi2 _ _ (Or.inr (by omega))]; exact c1 j (by omega)
theorem rbegin2_o (y : YI h Y Z) (hn : zun Z < 8) : xo (xg (xk h Y = 10) <| xg (xk h Y = 10) <| xb (FX9_keeps E Y (xi h Y 14) h) fun _ h2 => xg (xk h2 Y = 10) <| xg (xk h2 Y = 10) <| xlt (yi h2 Y 14 ((xi h2 Y 14) + 1)) fun h3 => xg (xk h3 Y = 10) <| xnn (xr h3 Y 12) fun w4 => xg (xk h3 w4 = 12 ∧ xin 560 (xn h3 w4)) <| xg (xk h3 w4 = 12 ∧ xin 560 (xn h3 w4)) <| xlt (yi h3 w4 (560 : Int32).toNatClampNeg ((xi h3 w4 (560 : Int32).toNatClampNeg) + 1)) fun h5 => xv () h5) (fun _ h' => iw (rYa Y) h h' ∧ xi h' Y 0 = xi h Y 0 ∧ YI h' Y (zpu Z)) := by
  have yl := y.l
  have ws := y.ws
  have wt := y.1.1.1.2
  have e14 : xi h Y 14 = nI (zun Z) := y.2.2.1.1
  rw [e14]
  refine xo_g yl.1 (xo_g yl.1 (xo_b (FX9_keeps_o yl (by omega)) (fun _ h2 q2 => ?_)))
  obtain ⟨i2, c2, d2⟩ := q2
  have y2 := yl.iw i2
  refine xo_g y2.1 (xo_g y2.1 (xo_lt ?_))
  rw [i2.i (a := Y) _ (by omega), e14, nI_s]
  have j3 : iw (fun a => a = Y) h2 (yi h2 Y 14 (nI (zun Z + 1))) := iw_yi _ _ _ _ rfl
  have e3 : xi (yi h2 Y 14 (nI (zun Z + 1))) Y 14 = nI (zun Z + 1) := xi_yi1 _ _ _ _
  have k3 : ∀ k, k ≠ 14 → xi (yi h2 Y 14 (nI (zun Z + 1))) Y k = xi h Y k := fun k hk => (xi_yi2 _ _ (Or.inr hk)).trans (i2.i _ (by omega))
  generalize yi h2 Y 14 (nI (zun Z + 1)) = h3 at j3 e3 k3 ⊢
  have y3 := y2.iw j3
  have g560 := y3.g8 (show 560 < 563 by omega)
  refine xo_g y3.1 (xo_n y3.r8 (xo_g g560 (xo_g g560 (xo_lt ?_))))
  rw [show (560 : Int32).toNatClampNeg = 560 from rfl]
  have i3 : iw (fun a => a = Y ∨ a = Y + 9) h h3 := i2.trans j3 (fun a q => Or.inr q) (fun a q => Or.inl q)
  have j4 : iw (fun a => a = Y + 8) h3 (yi h3 (Y + 8) 560 (xi h3 (Y + 8) 560 + 1)) := iw_yi _ _ _ _ rfl
  have i4 : iw (fun a => a = Y ∨ a = Y + 8 ∨ a = Y + 9) h (yi h3 (Y + 8) 560 (xi h3 (Y + 8) 560 + 1)) := i3.trans j4 (fun a q => by omega) (fun a q => by omega)
  have t3 : TR h3 (Y + 8) 0 (zS Z) (zT Z) := y.1.1.2.2.2.iw i3 (by omega)
  have c3 : ∀ x, x < 3 → xi h3 (Y + 8) (560 + x) = tcc (zT Z) x := fun x hx => by
    have := t3.2.2.2.2 x hx
    rw [Nat.zero_add] at this
    exact this
  refine xo_v ⟨i4.wide (fun a q => by unfold rYa; omega), ?_, ?_⟩
  · rw [j4.i _ (by omega)]; exact k3 _ (by decide)
  · refine YI_set y i4 (fun a q => by omega) (fun k k1 k2 => ?_) wt (TR_cc ws t3 _ (fun j hj => xi_yi2 _ _ (Or.inr (by omega))) (fun x hx => ?_)) ⟨?_, fun j hj => ?_⟩ (fun j hj => ⟨?_, fun T hT => ?_⟩)
    · rw [j4.i _ (by omega)]; exact k3 k k1
    · show _ = if x = 0 then tcc (zT Z) 0 + 1 else tcc (zT Z) x
      by_cases q : x = 0
      · rw [if_pos q, q, xi_yi1]
        have := c3 0 (by omega)
        rw [this]
      · rw [if_neg q, xi_yi2 _ _ (Or.inr (by omega))]; exact c3 x hx
    · rw [j4.i _ (by omega)]; exact e3
    · have hj : j < zun Z + 1 := hj
      show TR _ _ _ (zS Z) (if j = zun Z then zT Z else zu Z j)
      by_cases q : j = zun Z
      · rw [if_pos q, q]
        refine TR_cp (h := h) (R := Y + 8) (o := 0) ws y.1.1.2.2.2 (fun k hk => ?_)
        rw [j4.i _ (by omega), j3.i _ (by omega), c2 k hk, Nat.zero_add]
      · rw [if_neg q]
        refine TR_cp (h := h) (R := Y + 9) (o := 563 * j) ws (y.2.2.1.2 j (by omega)) (fun k hk => ?_)
        rw [j4.i _ (by omega), j3.i _ (by omega), d2 _ (by omega)]
    · rw [i4.i _ (by omega)]; exact (y.2.2.2.1 j hj).1
    · refine TR_cp (h := h) (R := Y + 9) (o := 563 * (8 + j)) ws ((y.2.2.2.1 j hj).2 T hT) (fun k hk => ?_)
      rw [j4.i _ (by omega), j3.i _ (by omega), d2 _ (by omega)]
theorem rdrop_o (y : YI h Y Z) (hn : zun Z = 8) {Q : Unit → XH → Prop} {k : XH → XP Unit} (K : ∀ h', iw (rYa Y) h h' → xi h' Y 0 = xi h Y 0 → YI h' Y (zdr Z) → xo (k h') Q) : xo (xlp (fun again11 (s11 : Int32) h6 => if (3941 : Int32) ≤ s11 then (xg (xk h6 Y = 10) <| xg (xk h6 Y = 10) <| xlt (yi h6 Y 14 ((xi h6 Y 14) - 1)) fun h7 => k h7) else (xg (xk h6 Y = 10) <| xnn (xr h6 Y 13) fun w8 => xg (xk h6 Y = 10) <| xnn (xr h6 Y 13) fun w9 => xg (xk h6 w9 = 12 ∧ xin (s11 + 563) (xn h6 w9)) <| xg (xk h6 w8 = 12 ∧ xin s11 (xn h6 w8)) <| xlt (yi h6 w8 (s11 : Int32).toNatClampNeg (xi h6 w9 ((s11 + 563) : Int32).toNatClampNeg)) fun h10 => again11 (s11 + 1) h10)) xfu 0 h) Q := by
  have yl := y.l
  have ws := y.ws
  have wt := y.1.1.1.2
  have e14 : xi h Y 14 = nI (zun Z) := y.2.2.1.1
  rw [hn] at e14
  refine xlp_inv (Po := fun m => xo m _) (fun i s h' => s = nI i ∧ iw (fun a => a = Y + 9) h h' ∧ (∀ j, j < i → xi h' (Y + 9) j = xi h (Y + 9) (j + 563)) ∧ ∀ j, i ≤ j → xi h' (Y + 9) j = xi h (Y + 9) j) 3941 (by omega) (fun i s h1 ag hi I again => ?_) ⟨rfl, iw.refl _ _, fun j hj => absurd hj (Nat.not_lt_zero _), fun _ _ => rfl⟩
  obtain ⟨rfl, i1, c1, d1⟩ := I
  have y1 := yl.iw i1
  by_cases e : i = 3941
  · subst e
    refine xo_t (Int32.le_refl _) (xo_g y1.1 (xo_g y1.1 (xo_lt ?_)))
    rw [i1.i (a := Y) _ (by omega), e14, nI_p 8 (by omega) (by omega)]
    have j2 : iw (fun a => a = Y) h1 (yi h1 Y 14 (nI (8 - 1))) := iw_yi _ _ _ _ rfl
    have i2 : iw (fun a => a = Y ∨ a = Y + 9) h (yi h1 Y 14 (nI (8 - 1))) := i1.trans j2 (fun a q => Or.inr q) (fun a q => Or.inl q)
    have k2 : ∀ k, k ≠ 14 → xi (yi h1 Y 14 (nI (8 - 1))) Y k = xi h Y k := fun k hk => (xi_yi2 _ _ (Or.inr hk)).trans (i1.i _ (by omega))
    refine K _ (i2.wide (fun a q => by unfold rYa; omega)) (k2 _ (by decide)) (YI_set y i2 (fun a q => by omega) (fun k k1 _ => k2 k k1) wt (y.1.1.2.2.2.iw i2 (by omega)) ⟨?_, fun j hj => ?_⟩ (fun j hj => ⟨?_, fun T hT => ?_⟩))
    · show _ = nI (zun Z - 1)
      rw [hn, xi_yi1]
    · have hj : j < zun Z - 1 := hj
      refine TR_cp (h := h) (R := Y + 9) (o := 563 * (j + 1)) ws (y.2.2.1.2 (j + 1) (by omega)) (fun k hk => ?_)
      rw [j2.i _ (by omega), c1 _ (by omega)]
      congr 1
      omega
    · rw [i2.i _ (by omega)]; exact (y.2.2.2.1 j hj).1
    · refine TR_cp (h := h) (R := Y + 9) (o := 563 * (8 + j)) ws ((y.2.2.2.1 j hj).2 T hT) (fun k hk => ?_)
      rw [j2.i _ (by omega), d1 _ (by omega)]
  · have hlt : i < 3941 := by omega
    refine xo_f (by rw [show (3941 : Int32) = nI 3941 from rfl, nI_leP (by omega) (by omega)]; omega) (xo_g y1.1 (xo_n y1.r9 (xo_g y1.1 (xo_n y1.r9 ?_))))
    rw [show nI i + 563 = nI (i + 563) by rw [show (563 : Int32) = nI 563 from rfl, nI_a]]
    refine xo_g (y1.g9 (by omega)) (xo_g (y1.g9 (by omega)) (xo_lt ?_))
    rw [xz_nI (by omega), xz_nI (by omega), nI_s]
    refine again hlt _ _ ⟨rfl, i1.yi _ _ _ rfl, fun j hj => ?_, fun j hj => ?_⟩
    · by_cases q : j = i
      · subst q
        rw [xi_yi1]; exact d1 _ (by omega)
      · rw [xi_yi2 _ _ (Or.inr (by omega))]; exact c1 j (by omega)
    · rw [xi_yi2 _ _ (Or.inr (by omega))]; exact d1 j (by omega)
theorem FX9_begins_o (y : YI h Y Z) (z8 : zun Z ≤ 8) : xo (FX9_begins E Y h) (fun _ h' => iw (rYa Y) h h' ∧ xi h' Y 0 = xi h Y 0 ∧ YI h' Y (zch Z)) := by
  have yl := y.l
  have e14 : xi h Y 14 = nI (zun Z) := y.2.2.1.1
  unfold FX9_begins zch
  refine xo_g yl.1 (xo_jn ?_)
  rw [e14]
  by_cases c : zun Z = 8
  · rw [if_pos c]
    refine xo_t (by rw [c]; rfl) (rdrop_o y c (fun h1 i1 e1 y1 => ?_))
    refine xo_w (rbegin2_o y1 (show zun Z - 1 < 8 by omega)) (fun v h' q => ⟨i1.trans q.1 (fun _ q => q) (fun _ q => q), q.2.1.trans e1, q.2.2⟩)
  · rw [if_neg c]
    exact xo_f (by rw [li8, nI_eqP (by omega) (by omega)]; exact c) (rbegin2_o y (by omega))
end REF
