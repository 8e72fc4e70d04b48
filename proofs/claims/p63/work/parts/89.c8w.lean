/-! What the class writes; its buffer. -/
set_option linter.unusedVariables false
section C8W
variable {E : XG} {h : XH} {X w s f : Nat} {Z : ZD}
theorem XI.bg (x : XI h X w s f Z) {g : Nat} (hg : g < sng (zS Z)) : g < 6 ∧ sgn (zS Z) g ≤ 8 := by
  have W := x.ci.1.1
  exact ⟨by have := W.1.1; omega, (W.2.1 g hg).1.2⟩
theorem C_writeTable (x : XI h X w s f Z) (z : WZ Z) (hl : zld Z = true) {g : Nat} (hk : g < sng (zS Z)) : WZ (zst Z (wtT (sgn (zS Z) g) (sgt (zS Z) g) (sgn (zS Z) g))) ∧ xo (FX8_writeTable E X (nI g) h) (fun r h' => r = (nI (wtT (sgn (zS Z) g) (sgt (zS Z) g) (sgn (zS Z) g)).length) ∧ iw (rXa X) h h' ∧ ∃ w s f, XI h' X w s f (zst Z (wtT (sgn (zS Z) g) (sgt (zS Z) g) (sgn (zS Z) g)))) := by
  have bn := x.ci.1.1.1
  have G := x.ci.2.1.gt x.ci.1.1 hk
  have b := x.bg hk
  have n0 := G.2.1.2.1
  have lt := fun a b ha hb => (G.2.1.2.2.2 a b ha hb).2
  have hlen := wtT_len (sgn (zS Z) g) (sgt (zS Z) g)
  have h56 : ∀ i, i < sgn (zS Z) g → sgn (zS Z) g * i ≤ 56 := fun i hi => n8i b.2 (by omega)
  have hle : (wtT (sgn (zS Z) g) (sgt (zS Z) g) (sgn (zS Z) g)).length ≤ 71 := by
    rw [hlen]
    have := h56 (sgn (zS Z) g - 1) (by omega)
    have e := Nat.mul_succ (sgn (zS Z) g) (sgn (zS Z) g - 1)
    rw [show (sgn (zS Z) g - 1).succ = sgn (zS Z) g by omega] at e
    omega
  refine ⟨(zst_wz z hle (wtT_128 (fun a b ha hb => by have := lt a b ha hb; omega) _ (Nat.le_refl _))), ?_⟩
  unfold FX8_writeTable
  refine xo_g x.k (xo_eb (FX8_groupAt_v x hl hk) (xo_g x.k (xo_lt ?_)))
  refine xlp_inv (Po := fun m => xo m _) (fun i s' h' => s' = nI i ∧ iw (rXa X) h h' ∧ XI h' X w s f (zst Z (wtT (sgn (zS Z) g) (sgt (zS Z) g) i))) (sgn (zS Z) g) (by omega) (fun i s' h1 ag hi I again => ?_) ⟨rfl, iw_yi _ _ _ _ (by unfold rXa; omega), XI_t0 x⟩
  obtain ⟨rfl, i1, x1⟩ := I
  have G1 := x1.ci.2.1.gt x1.ci.1.1 hk
  refine xo_g G1.1.1 ?_
  rw [show xi h1 (w + 14 + 3 * g) 3 = nI (sgn (zS Z) g) from G1.2.1.1]
  by_cases e : i = sgn (zS Z) g
  · subst e
    refine xo_t (Int32.le_refl _) (xo_g x1.k (xo_v ⟨x1.2.2.2.2.2.2.1, i1, w, s, f, x1⟩))
  · have hlt : i < sgn (zS Z) g := by omega
    have h1' := hlen i
    have h2' := h56 i hlt
    refine xo_f (nI_ge hlt (by omega)) (xo_jn ?_)
    have inner : ∀ h2, iw (rXa X) h h2 → XI h2 X w s f (zst Z (wtA i (wtT (sgn (zS Z) g) (sgt (zS Z) g) i))) → xo (xlp (fun again34 (s34 : Int32) h6 => xg (xk h6 (w + 14 + 3 * g) = 3) <| if ((xi h6 (w + 14 + 3 * g) 3) : Int32) ≤ s34 then (ag (nI i + 1) h6) else (xg (xk h6 (w + 14 + 3 * g) = 3) <| xb (FX2_product E (w + 14 + 3 * g) (nI i) s34 h6) fun v7 h8 => xg (xk h8 X = 9) <| xb (FX8_write E X (48 + v7) h8) fun _ h9 => again34 (s34 + 1) h9)) xfu 0 h2) (fun v h1 => v = nI (wtT (sgn (zS Z) g) (sgt (zS Z) g) (sgn (zS Z) g)).length ∧ iw (rXa X) h h1 ∧ ∃ w s f, XI h1 X w s f (zst Z (wtT (sgn (zS Z) g) (sgt (zS Z) g) (sgn (zS Z) g)))) := fun h2 i2 x2 => by
      refine xlp_inv (Po := fun m => xo m _) (fun k s' h' => s' = nI k ∧ iw (rXa X) h h' ∧ XI h' X w s f (zst Z (wtR (sgt (zS Z) g) i (wtA i (wtT (sgn (zS Z) g) (sgt (zS Z) g) i)) k))) (sgn (zS Z) g) (by omega) (fun k s' h3 ag' hk3 I again' => ?_) ⟨rfl, i2, x2⟩
      obtain ⟨rfl, i3, x3⟩ := I
      have G3 := x3.ci.2.1.gt x3.ci.1.1 hk
      refine xo_g G3.1.1 ?_
      rw [show xi h3 (w + 14 + 3 * g) 3 = nI (sgn (zS Z) g) from G3.2.1.1]
      by_cases e : k = sgn (zS Z) g
      · subst e
        refine xo_t (Int32.le_refl _) ?_
        rw [nI_s]
        exact again hlt _ _ ⟨rfl, i3, x3⟩
      · have hlt2 : k < sgn (zS Z) g := by omega
        have q := lt i k hlt hlt2
        refine xo_f (nI_ge hlt2 (by omega)) (xo_g G3.1.1 (xo_eb (FX2_product_v G3.1 G3.2.1 hlt hlt2) (xo_g x3.k ?_)))
        rw [a48]
        have hA := wtA_len i (wtT (sgn (zS Z) g) (sgt (zS Z) g) i)
        have hlR := wtR_len (sgt (zS Z) g) i (wtA i (wtT (sgn (zS Z) g) (sgt (zS Z) g) i)) k
        refine xo_b (write_o x3 (by rw [hlR, hA, h1']; split <;> omega) (show 48 + sgt (zS Z) g i k < 128 by omega)) (fun _ h4 q4 => ?_)
        rw [nI_s]
        exact again' hlt2 _ _ ⟨rfl, i3.trans q4.1 (fun _ q => q) (fun _ q => q), q4.2⟩
    by_cases e0 : i = 0
    · refine xo_t (by rw [e0]; exact Int32.le_refl _) (inner h1 i1 ?_)
      unfold wtA
      rw [if_pos e0]
      exact x1
    · refine xo_f (by rw [← nI_0, nI_leP (by omega) (by omega)]; omega) (xo_g x1.k (xo_b (write_o (c := 47) x1 (by omega) (by omega)) (fun _ h4 q4 => ?_)))
      refine inner h4 (i1.trans q4.1 (fun _ q => q) (fun _ q => q)) ?_
      unfold wtA
      rw [if_neg e0]
      exact q4.2
theorem C_writeModule (x : XI h X w s f Z) (z : WZ Z) (hl : zld Z = true) {m : Nat} (hk : m < snm (zS Z)) : WZ (zst Z (wmE (whS (zS Z) (zT Z) m) (wmB (tbd (zT Z) m) (wmN (snn (zS Z) 1 m) (snn (zS Z) 1 m).length) (nuS (zS Z) m)))) ∧ xo (FX8_writeModule E X (nI m) h) (fun r h' => r = (nI (wmE (whS (zS Z) (zT Z) m) (wmB (tbd (zT Z) m) (wmN (snn (zS Z) 1 m) (snn (zS Z) 1 m).length) (nuS (zS Z) m))).length) ∧ iw (rXa X) h h' ∧ ∃ w s f, XI h' X w s f (zst Z (wmE (whS (zS Z) (zT Z) m) (wmB (tbd (zT Z) m) (wmN (snn (zS Z) 1 m) (snn (zS Z) 1 m).length) (nuS (zS Z) m))))) := by
  have bn := x.ci.1.1.1
  have bm := x.bm hk
  have hw5 := whS_le (zS Z) (zT Z) m
  have hsc : m < scn (zS Z) 1 := hk
  obtain ⟨⟨l1, l2⟩, l3⟩ := z.2.1 1 m (by omega) hsc
  have bd8 : ∀ a, a < nuS (zS Z) m → tbd (zT Z) m a < 8 := fun a ha => by have := x.ci.1.2.1 m a hk ha; omega
  have c1 := wmN_128 (nm := snn (zS Z) 1 m) (fun c hc => by have := l3 c hc; omega) (snn (zS Z) 1 m).length
  have c2 := wmB_128 (bd := tbd (zT Z) m) c1 bd8 (nuS (zS Z) m) (Nat.le_refl _)
  have c3 := wmE_128 (y := whS (zS Z) (zT Z) m) c2 (by omega)
  have n1 := wmN_len (snn (zS Z) 1 m)
  have n2 := wmB_len (tbd (zT Z) m) (wmN (snn (zS Z) 1 m) (snn (zS Z) 1 m).length)
  have n3 := wmE_len (whS (zS Z) (zT Z) m) (wmB (tbd (zT Z) m) (wmN (snn (zS Z) 1 m) (snn (zS Z) 1 m).length) (nuS (zS Z) m))
  have n2' := n2 (nuS (zS Z) m)
  rw [n1] at n2'
  refine ⟨(zst_wz z (by omega) c3), ?_⟩
  unfold FX8_writeModule
  refine xo_g x.k (xo_eb (FX8_moduleAt_v x hl hk) (xo_g x.k (xo_n x.w5 (xo_g x.wl.1 (xo_n x.wl.rm (xo_g x.k (xo_lt ?_)))))))
  refine xlp_inv (Po := fun m => xo m _) (fun i s' h' => s' = nI i ∧ iw (rXa X) h h' ∧ XI h' X w s f (zst Z (wmN (snn (zS Z) 1 m) i))) (snn (zS Z) 1 m).length (by omega) (fun i s' h1 ag hi I again => ?_) ⟨rfl, iw_yi _ _ _ _ (by unfold rXa; omega), XI_t0 x⟩
  obtain ⟨rfl, i1, x1⟩ := I
  have eL : FX3_lengthOf E (w + 4) (nI m) h1 = xv (nI (snn (zS Z) 1 m).length) h1 := FX3_lengthOf_n x1 (t := 1) (by omega) hsc
  refine xo_g x1.wl.km (xo_eb eL ?_)
  by_cases e : i = (snn (zS Z) 1 m).length
  · refine xo_t (by rw [e]; exact Int32.le_refl _) ?_
    rw [e] at x1
    refine xlp_inv (Po := fun m => xo m _) (fun i s' h' => s' = nI i ∧ iw (rXa X) h h' ∧ XI h' X w s f (zst Z (wmB (tbd (zT Z) m) (wmN (snn (zS Z) 1 m) (snn (zS Z) 1 m).length) i))) (nuS (zS Z) m) (by omega) (fun a s' h2 ag' ha I again' => ?_) ⟨rfl, i1, x1⟩
    obtain ⟨rfl, i2, x2⟩ := I
    have C2 : CM h2 (w + 32 + 8 * m) (w + 14 + 3 * smu (zS Z) m) (w + 14 + 3 * sml (zS Z) m) (mdS (zS Z) (zT Z) m) := x2.ci.cm hk
    refine xo_g C2.k (xo_n C2.u (xo_g C2.uk ?_))
    rw [show xi h2 (w + 14 + 3 * smu (zS Z) m) 3 = nI (nuS (zS Z) m) from C2.un]
    by_cases e2 : a = nuS (zS Z) m
    · refine xo_t (by rw [e2]; exact Int32.le_refl _) ?_
      rw [e2] at x2
      refine xo_g (x2.ci.cm hk).k (xo_jn ?_)
      rw [show xi h2 (w + 32 + 8 * m) 7 = nI (whS (zS Z) (zT Z) m) from x2.re hk]
      by_cases hw : whS (zS Z) (zT Z) m = 0
      · refine xo_t (by rw [hw]; rfl) ?_
        refine xo_g x2.k (xo_v ⟨?_, i2, w, s, f, ?_⟩)
        · unfold wmE; rw [if_pos hw]; exact x2.2.2.2.2.2.2.1
        · unfold wmE; rw [if_pos hw]; exact x2
      · refine xo_f (by rw [nI_eq0 (by omega)]; exact hw) (xo_g x2.k (xo_b (write_o (c := 59) x2 (by omega) (by omega)) (fun _ h4 q4 => ?_)))
        have x4 := q4.2
        refine xo_g (x4.ci.cm hk).k (xo_g x4.k ?_)
        rw [show xi h4 (w + 32 + 8 * m) 7 = nI (whS (zS Z) (zT Z) m) from x4.re hk, a48]
        refine xo_b (write_o x4 (by rw [List.length_append, List.length_singleton]; omega) (show 48 + whS (zS Z) (zT Z) m < 128 by omega)) (fun _ h5 q5 => ?_)
        refine xo_g q5.2.k (xo_v ⟨?_, (i2.trans q4.1 (fun _ q => q) (fun _ q => q)).trans q5.1 (fun _ q => q) (fun _ q => q), w, s, f, ?_⟩)
        · unfold wmE; rw [if_neg hw]; exact q5.2.2.2.2.2.2.2.1
        · unfold wmE; rw [if_neg hw]; exact q5.2
    · have hlt : a < nuS (zS Z) m := by omega
      have n2a := n2 a
      rw [n1] at n2a
      have q := bd8 a hlt
      refine xo_f (nI_ge hlt (by omega)) (xo_jn ?_)
      have tail : ∀ c : Nat, c < 128 → c = (if a = 0 then 58 else 44) → xo ((fun (v14 : Int32) (h15 : XH) => xg (xk h15 X = 9) <| xb (FX8_write E X v14 h15) fun _ h16 => xg (xk h16 (w + 32 + 8 * m) = 2) <| xb (FX1_boundaryOf E (w + 32 + 8 * m) (nI a) h16) fun v17 h18 => xg (xk h18 X = 9) <| xb (FX8_write E X (48 + v17) h18) fun _ h19 => ag' (nI a + 1) h19) (nI c) h2) (fun v h1 => v = nI (wmE (whS (zS Z) (zT Z) m) (wmB (tbd (zT Z) m) (wmN (snn (zS Z) 1 m) (snn (zS Z) 1 m).length) (nuS (zS Z) m))).length ∧ iw (rXa X) h h1 ∧ ∃ w s f, XI h1 X w s f (zst Z (wmE (whS (zS Z) (zT Z) m) (wmB (tbd (zT Z) m) (wmN (snn (zS Z) 1 m) (snn (zS Z) 1 m).length) (nuS (zS Z) m))))) := fun c hc ec => by
        refine xo_g x2.k (xo_b (write_o x2 (by omega) hc) (fun _ h4 q4 => ?_))
        have x4 := q4.2
        have C4 : CM h4 (w + 32 + 8 * m) (w + 14 + 3 * smu (zS Z) m) (w + 14 + 3 * sml (zS Z) m) (mdS (zS Z) (zT Z) m) := x4.ci.cm hk
        refine xo_g C4.k (xo_eb (C4.bd hlt) (xo_g x4.k ?_))
        rw [show (48 : Int32) + nI (dbd (mdS (zS Z) (zT Z) m) a) = nI (48 + tbd (zT Z) m a) from a48 _]
        refine xo_b (write_o x4 (by rw [List.length_append, List.length_singleton]; omega) (show 48 + tbd (zT Z) m a < 128 by omega)) (fun _ h5 q5 => ?_)
        rw [nI_s]
        refine again' hlt _ _ ⟨rfl, (i2.trans q4.1 (fun _ q => q) (fun _ q => q)).trans q5.1 (fun _ q => q) (fun _ q => q), ?_⟩
        have := q5.2
        rw [ec] at this
        exact this
      by_cases e0 : a = 0
      · exact xo_t (by rw [e0]; rfl) (tail 58 (by omega) (by rw [if_pos e0]))
      · exact xo_f (by rw [nI_eq0 (by omega)]; exact e0) (tail 44 (by omega) (by rw [if_neg e0]))
  · have hlt : i < (snn (zS Z) 1 m).length := by omega
    have eN : FX3_letterOf E (w + 4) (nI m) (nI i) h1 = xv (nI ((snn (zS Z) 1 m).getD i 0)) h1 := FX3_letterOf_n x1 (zst_wz (l := wmN (snn (zS Z) 1 m) i) z (by rw [n1]; omega) (wmN_128 (fun c hc => by have := l3 c hc; omega) i)) (t := 1) (by omega) hsc hlt
    have hc := l3 _ (gD_mem hlt)
    refine xo_f (nI_ge hlt (by omega)) (xo_g x1.wl.km (xo_eb eN (xo_g x1.k (xo_b (write_o x1 (by rw [n1]; omega) (by omega)) (fun _ h4 q4 => ?_)))))
    rw [nI_s]
    exact again hlt _ _ ⟨rfl, i1.trans q4.1 (fun _ q => q) (fun _ q => q), q4.2⟩
/-- the five words of an append -/
def w5 (p0 p1 p2 p3 p4 : Int32) : Nat → Int32 := fun k => if k = 0 then p0 else if k = 1 then p1 else if k = 2 then p2 else if k = 3 then p3 else p4
theorem C_append (x : XI h X w s f Z) (z : WZ Z) (hf : zfl Z + 20 ≤ 900) (p0 p1 p2 p3 p4 : Int32) : WZ (zbu Z (zfl Z + 20) (bfE (zbf Z) (zfl Z) (w5 p0 p1 p2 p3 p4))) ∧ xo (FX8_append E X p0 p1 p2 p3 p4 h) (fun r h' => r = nI (zfl Z + 20) ∧ iw (rXa X) h h' ∧ ∃ w s f, XI h' X w s f (zbu Z (zfl Z + 20) (bfE (zbf Z) (zfl Z) (w5 p0 p1 p2 p3 p4)))) := by
  have z900 := z.2.2.2.2.1.1
  have e20 : nI (zfl Z) + 20 = nI (zfl Z + 20) := by rw [show (20 : Int32) = nI 20 from rfl, nI_a]
  have l900 : (900 : Int32) = nI 900 := rfl
  let ws : Nat → Int32 := w5 p0 p1 p2 p3 p4
  refine ⟨⟨z.1, z.2.1, z.2.2.1, z.2.2.2.1, ⟨hf, fun i hi => ?_⟩, z.2.2.2.2.2⟩, ?_⟩
  · show bfE (zbf Z) (zfl Z) ws i < 256
    unfold bfE
    split
    · exact z.2.2.2.2.1.2 i (by assumption)
    · exact (byN_e _ _).2
  · have x0 : XI h X w s f (zbu Z (zfl Z) (bfE (zbf Z) (zfl Z) ws)) := by
      refine XI_buf x (iw.refl _ h) (fun _ _ => rfl) x.2.2.1.1 (fun i hi => ?_)
      rw [x.2.2.1.2 i hi]
      unfold bfE
      rw [if_pos hi]
    have hb : ∀ k r, k < 5 → r < 4 → bfE (zbf Z) (zfl Z) ws (zfl Z + 4 * k + r) = byN (ws k) r := fun k r hk hr => by
      unfold bfE
      rw [if_neg (by omega), show (zfl Z + 4 * k + r - zfl Z) / 4 = k by omega, show (zfl Z + 4 * k + r - zfl Z) % 4 = r by omega]
    have f1 : xi h X 1 = nI (zfl Z) := x.2.2.1.1
    unfold FX8_append
    refine xo_g x.k ?_
    rw [f1, e20]
    refine xo_t (by rw [l900, nI_leP (by omega) (by omega)]; exact hf) ?_
    refine xo_g x.k (xo_b (appendWord_o x0 (by omega) p0 (fun r hr => hb 0 r (by omega) hr)) (fun _ h1 q1 => ?_))
    refine xo_g q1.2.k (xo_b (appendWord_o q1.2 (by omega) p1 (fun r hr => hb 1 r (by omega) hr)) (fun _ h2 q2 => ?_))
    refine xo_g q2.2.k (xo_b (appendWord_o q2.2 (by omega) p2 (fun r hr => hb 2 r (by omega) hr)) (fun _ h3 q3 => ?_))
    refine xo_g q3.2.k (xo_b (appendWord_o q3.2 (by omega) p3 (fun r hr => hb 3 r (by omega) hr)) (fun _ h4 q4 => ?_))
    refine xo_g q4.2.k (xo_b (appendWord_o q4.2 (by omega) p4 (fun r hr => hb 4 r (by omega) hr)) (fun _ h5 q5 => ?_))
    refine xo_g q5.2.k (xo_v ⟨q5.2.2.2.1.1, ?_, w, s, f, q5.2⟩)
    exact (((q1.1.trans q2.1 (fun _ q => q) (fun _ q => q)).trans q3.1 (fun _ q => q) (fun _ q => q)).trans q4.1 (fun _ q => q) (fun _ q => q)).trans q5.1 (fun _ q => q) (fun _ q => q)
end C8W
