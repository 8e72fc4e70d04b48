/-! A module's text; what is appended. -/
set_option linter.unusedVariables false
section AG
variable {E : XG} {h : XH} {X Y O w s f : Nat} {Z : ZD}
/-- a module as a text -/
def wmN (nm : List Nat) : Nat → List Nat := fld (fun i l => l ++ [nm.getD i 0]) []
def wmB (bd : Nat → Nat) (l : List Nat) : Nat → List Nat := fld (fun a l => (l ++ [if a = 0 then 58 else 44]) ++ [48 + bd a]) l
def wmE (y : Nat) (l : List Nat) : List Nat := if y = 0 then l else (l ++ [59]) ++ [48 + y]
theorem wmN_len (nm : List Nat) (i : Nat) : (wmN nm i).length = i := by
  induction i with
  | zero => rfl
  | succ i ih => show (wmN nm i ++ [_]).length = _; rw [List.length_append, ih]; rfl
theorem wmB_len (bd : Nat → Nat) (l : List Nat) (i : Nat) : (wmB bd l i).length = l.length + 2 * i := by
  induction i with
  | zero => rfl
  | succ i ih =>
    show ((wmB bd l i ++ [_]) ++ [_]).length = _
    rw [List.length_append, List.length_append, ih, List.length_singleton, List.length_singleton]; omega
theorem wmN_128 {nm : List Nat} (hn : ∀ c ∈ nm, c < 128) : ∀ i, ∀ c ∈ wmN nm i, c < 128 := by
  intro i
  induction i with
  | zero => intro c hc; cases hc
  | succ i ih =>
    intro c hc
    rcases List.mem_append.mp (show c ∈ wmN nm i ++ [nm.getD i 0] from hc) with q | q
    · exact ih c q
    · rw [List.mem_singleton.mp q]
      rcases Nat.lt_or_ge i nm.length with z | z
      · exact hn _ (gD_mem z)
      · rw [gD_ge z]; omega
theorem wmB_128 {bd : Nat → Nat} {l : List Nat} {n : Nat} (hl : ∀ c ∈ l, c < 128) (hb : ∀ a, a < n → bd a < 8) : ∀ i, i ≤ n → ∀ c ∈ wmB bd l i, c < 128 := by
  intro i
  induction i with
  | zero => exact fun _ => hl
  | succ i ih =>
    intro hi c hc
    rcases List.mem_append.mp (show c ∈ (wmB bd l i ++ [if i = 0 then 58 else 44]) ++ [48 + bd i] from hc) with q | q
    · rcases List.mem_append.mp q with q | q
      · exact ih (by omega) c q
      · rw [List.mem_singleton.mp q]; split <;> omega
    · rw [List.mem_singleton.mp q]
      have := hb i (by omega)
      omega
theorem wmE_128 {y : Nat} {l : List Nat} (hl : ∀ c ∈ l, c < 128) (hy : y < 8) : ∀ c ∈ wmE y l, c < 128 := by
  intro c hc
  unfold wmE at hc
  split at hc
  · exact hl c hc
  · rcases List.mem_append.mp hc with q | q
    · rcases List.mem_append.mp q with q | q
      · exact hl c q
      · rw [List.mem_singleton.mp q]; decide
    · rw [List.mem_singleton.mp q]; omega
theorem wmE_len (y : Nat) (l : List Nat) : (wmE y l).length ≤ l.length + 2 := by
  unfold wmE
  split
  · omega
  · rw [List.length_append, List.length_append]; exact Nat.le_refl _
theorem ag_writeModule (j : JJ h X Y O Z) (p : Int32) : AGz X Y (cmT [0, 1]) h Z (FX8_writeModule E X p) (FX9_writeModule E Y p) := by
  have jj := j
  obtain ⟨z, -, -, ⟨w, s, f, x⟩, y⟩ := j
  have bn := x.ci.1.1.1
  cases hl : zld Z
  · refine AGz_x jj (AG_x 0 1 0 ?_ (fun h' y => ?_) (by decide))
    · unfold FX8_writeModule
      rw [xg_t x.k, FX8_moduleAt_0 x hl]
      rfl
    · unfold FX9_writeModule
      simp (disch := omega) only [↓xg, ↓reduceIte, ↓xjn_d, ↓xlt_d, eq_self, and_self, and_true, true_and, not_true, not_false_iff, ne_eq, true_or, or_true, or_false, false_or, nI_s, nI_leP, nI_eqP, y.l.1, ↓xb_eq (FX9_noModule_0 y hl p), i1_0]
      try rfl
  · cases hp : inr p (snm (zS Z))
    · refine AGz_x jj (AG_x 1 2 0 ?_ (fun h' y => ?_) (by decide))
      · unfold FX8_writeModule
        rw [xg_t x.k, FX8_moduleAt_1 x hl hp]
        rfl
      · unfold FX9_writeModule
        simp (disch := omega) only [↓xg, ↓reduceIte, ↓xjn_d, ↓xlt_d, eq_self, and_self, and_true, true_and, not_true, not_false_iff, ne_eq, true_or, or_true, or_false, false_or, nI_s, nI_leP, nI_eqP, y.l.1, ↓xb_eq (FX9_noModule_1 y hl hp), i1_0]
        try rfl
    · obtain ⟨m, hk, rfl⟩ := inr_of (by omega) hp
      have bm := y.bm hk
      have hw5 := whS_le (zS Z) (zT Z) m
      have hsc : m < scn (zS Z) 1 := hk
      obtain ⟨⟨l1, l2⟩, l3⟩ := z.2.1 1 m (by omega) hsc
      have bd8 : ∀ a, a < nuS (zS Z) m → tbd (zT Z) m a < 8 := fun a ha => by have := x.ci.1.2.1 m a hk ha; omega
      have c1 := wmN_128 (nm := snn (zS Z) 1 m) (fun c hc => by have := l3 c hc; omega) (snn (zS Z) 1 m).length
      have c2 := wmB_128 (bd := tbd (zT Z) m) c1 bd8 (nuS (zS Z) m) (Nat.le_refl _)
      have c3 := wmE_128 (y := whS (zS Z) (zT Z) m) c2 (by omega)
      have n1 := wmN_len (snn (zS Z) 1 m)
      have n2 := wmB_len (tbd (zT Z) m) (wmN (snn (zS Z) 1 m) (snn (zS Z) 1 m).length)
      have n3 := wmE_len (whS (zS Z) (zT Z) m) (wmB (tbd (zT Z) m) (wmN (snn (zS Z) 1 m) (snn (zS Z) 1 m).length) (nuS (zS Z) m))
      have n2' := n2 (nuS (zS Z) m)
      rw [n1] at n2'
      refine AGz_v (nI (wmE (whS (zS Z) (zT Z) m) (wmB (tbd (zT Z) m) (wmN (snn (zS Z) 1 m) (snn (zS Z) 1 m).length) (nuS (zS Z) m))).length) (zst Z (wmE (whS (zS Z) (zT Z) m) (wmB (tbd (zT Z) m) (wmN (snn (zS Z) 1 m) (snn (zS Z) 1 m).length) (nuS (zS Z) m)))) (zst_wz z (by omega) c3) ?_ (fun h' y => ?_)
      · unfold FX8_writeModule
        refine xo_g x.k (xo_eb (FX8_moduleAt_v x hl hk) (xo_g x.k (xo_n x.w5 (xo_g x.wl.1 (xo_n x.wl.rm (xo_g x.k (xo_lt ?_)))))))
        refine xlp_inv (Po := fun m => xo m _) (fun i s' h' => s' = nI i ∧ iw (rXa X) h h' ∧ XI h' X w s f (zst Z (wmN (snn (zS Z) 1 m) i))) (snn (zS Z) 1 m).length (by omega) (fun i s' h1 ag hi I again => ?_) ⟨rfl, iw_yi _ _ _ _ (by unfold rXa; omega), XI_t0 x⟩
        obtain ⟨rfl, i1, x1⟩ := I
        have eL : FX3_lengthOf E (w + 4) (nI m) h1 = xv (nI (snn (zS Z) 1 m).length) h1 := FX3_lengthOf_n x1 (t := 1) (by omega) hsc
        refine xo_g x1.wl.km (xo_eb eL ?_)
        by_cases e : i = (snn (zS Z) 1 m).length
        · refine xo_t (by rw [e]; exact Int32.le_refl _) ?_
          rw [e] at x1
          refine xlp_inv (Po := fun m => xo m _) (fun i s' h' => s' = nI i ∧ iw (rXa X) h h' ∧ XI h' X w s f (zst Z (wmB (tbd (zT Z) m) (wmN (snn (zS Z) 1 m) (snn (zS Z) 1 m).length) i))) (nuS (zS Z) m) (by omega) (fun a s' h2 ag' ha I again' => ?_) ⟨rfl, i1, x1⟩
          obtain ⟨rfl, i2, x2⟩ := I
          have C2 : CM h2 (w + 32 + 8 * m) (w + 14 + 3 * smu (zS Z) m) (w + 14 + 3 * sml (zS Z) m) (mdS (zS Z) (zT Z) m) := x2.ci.cm hk
          refine xo_g C2.k (xo_n C2.u (xo_g C2.uk ?_))
          rw [show xi h2 (w + 14 + 3 * smu (zS Z) m) 3 = nI (nuS (zS Z) m) from C2.un]
          by_cases e2 : a = nuS (zS Z) m
          · refine xo_t (by rw [e2]; exact Int32.le_refl _) ?_
            rw [e2] at x2
            refine xo_g (x2.ci.cm hk).k (xo_jn ?_)
            rw [show xi h2 (w + 32 + 8 * m) 7 = nI (whS (zS Z) (zT Z) m) from x2.re hk]
            by_cases hw : whS (zS Z) (zT Z) m = 0
            · refine xo_t (by rw [hw]; rfl) ?_
              refine xo_g x2.k (xo_v ⟨?_, i2, w, s, f, ?_⟩)
              · unfold wmE; rw [if_pos hw]; exact x2.2.2.2.2.2.2.1
              · unfold wmE; rw [if_pos hw]; exact x2
            · refine xo_f (by rw [nI_eq0 (by omega)]; exact hw) (xo_g x2.k (xo_b (write_o (c := 59) x2 (by omega) (by omega)) (fun _ h4 q4 => ?_)))
              have x4 := q4.2
              refine xo_g (x4.ci.cm hk).k (xo_g x4.k ?_)
              rw [show xi h4 (w + 32 + 8 * m) 7 = nI (whS (zS Z) (zT Z) m) from x4.re hk, a48]
              refine xo_b (write_o x4 (by rw [List.length_append, List.length_singleton]; omega) (show 48 + whS (zS Z) (zT Z) m < 128 by omega)) (fun _ h5 q5 => ?_)
              refine xo_g q5.2.k (xo_v ⟨?_, (i2.trans q4.1 (fun _ q => q) (fun _ q => q)).trans q5.1 (fun _ q => q) (fun _ q => q), w, s, f, ?_⟩)
              · unfold wmE; rw [if_neg hw]; exact q5.2.2.2.2.2.2.2.1
              · unfold wmE; rw [if_neg hw]; exact q5.2
          · have hlt : a < nuS (zS Z) m := by omega
            have n2a := n2 a
            rw [n1] at n2a
            have q := bd8 a hlt
            refine xo_f (nI_ge hlt (by omega)) (xo_jn ?_)
            have tail : ∀ c : Nat, c < 128 → c = (if a = 0 then 58 else 44) → xo ((fun (v14 : Int32) (h15 : XH) => xg (xk h15 X = 9) <| xb (FX8_write E X v14 h15) fun _ h16 => xg (xk h16 (w + 32 + 8 * m) = 2) <| xb (FX1_boundaryOf E (w + 32 + 8 * m) (nI a) h16) fun v17 h18 => xg (xk h18 X = 9) <| xb (FX8_write E X (48 + v17) h18) fun _ h19 => ag' (nI a + 1) h19) (nI c) h2) (fun v h1 => v = nI (wmE (whS (zS Z) (zT Z) m) (wmB (tbd (zT Z) m) (wmN (snn (zS Z) 1 m) (snn (zS Z) 1 m).length) (nuS (zS Z) m))).length ∧ iw (rXa X) h h1 ∧ ∃ w s f, XI h1 X w s f (zst Z (wmE (whS (zS Z) (zT Z) m) (wmB (tbd (zT Z) m) (wmN (snn (zS Z) 1 m) (snn (zS Z) 1 m).length) (nuS (zS Z) m))))) := fun c hc ec => by
              refine xo_g x2.k (xo_b (write_o x2 (by omega) hc) (fun _ h4 q4 => ?_))
              have x4 := q4.2
              have C4 : CM h4 (w + 32 + 8 * m) (w + 14 + 3 * smu (zS Z) m) (w + 14 + 3 * sml (zS Z) m) (mdS (zS Z) (zT Z) m) := x4.ci.cm hk
              refine xo_g C4.k (xo_eb (C4.bd hlt) (xo_g x4.k ?_))
              rw [show (48 : Int32) + nI (dbd (mdS (zS Z) (zT Z) m) a) = nI (48 + tbd (zT Z) m a) from a48 _]
              refine xo_b (write_o x4 (by rw [List.length_append, List.length_singleton]; omega) (show 48 + tbd (zT Z) m a < 128 by omega)) (fun _ h5 q5 => ?_)
              rw [nI_s]
              refine again' hlt _ _ ⟨rfl, (i2.trans q4.1 (fun _ q => q) (fun _ q => q)).trans q5.1 (fun _ q => q) (fun _ q => q), ?_⟩
              have := q5.2
              rw [ec] at this
              exact this
            by_cases e0 : a = 0
            · exact xo_t (by rw [e0]; rfl) (tail 58 (by omega) (by rw [if_pos e0]))
            · exact xo_f (by rw [nI_eq0 (by omega)]; exact e0) (tail 44 (by omega) (by rw [if_neg e0]))
        · have hlt : i < (snn (zS Z) 1 m).length := by omega
          have eN : FX3_letterOf E (w + 4) (nI m) (nI i) h1 = xv (nI ((snn (zS Z) 1 m).getD i 0)) h1 := FX3_letterOf_n x1 (zst_wz (l := wmN (snn (zS Z) 1 m) i) z (by rw [n1]; omega) (wmN_128 (fun c hc => by have := l3 c hc; omega) i)) (t := 1) (by omega) hsc hlt
          have hc := l3 _ (gD_mem hlt)
          refine xo_f (nI_ge hlt (by omega)) (xo_g x1.wl.km (xo_eb eN (xo_g x1.k (xo_b (write_o x1 (by rw [n1]; omega) (by omega)) (fun _ h4 q4 => ?_)))))
          rw [nI_s]
          exact again hlt _ _ ⟨rfl, i1.trans q4.1 (fun _ q => q) (fun _ q => q), q4.2⟩
      · have y0 := y.t 0
        unfold FX9_writeModule
        refine xo_g y.l.1 (xo_eb (FX9_noModule_v y hl hk) (xo_t rfl (xo_g y0.l.1 (xo_lt ?_))))
        have e6 : (6 : Int32) + nI m = nI (6 * 1 + m) := by rw [li6, nI_a]
        rw [e6]
        refine xlp_inv (Po := fun m => xo m _) (fun i s' h2 => s' = nI i ∧ iw (rYa Y) h' h2 ∧ xi h2 Y 0 = 0 ∧ YI h2 Y (zst Z (wmN (snn (zS Z) 1 m) i))) (snn (zS Z) 1 m).length (by omega) (fun i s' h1 ag hi I again => ?_) ⟨rfl, (iw_yi (A := rYa Y) _ _ _ _ (by unfold rYa; omega)).yi _ _ _ (by unfold rYa; omega), by rw [xi_yi2 _ _ (Or.inr (by decide)), xi_yi1], YI_t0 y0⟩
        obtain ⟨rfl, i1, z1, y1⟩ := I
        have zz : WZ (zst Z (wmN (snn (zS Z) 1 m) i)) := zst_wz (l := wmN (snn (zS Z) 1 m) i) z (by rw [n1]; omega) (wmN_128 (fun c hc => by have := l3 c hc; omega) i)
        refine xo_g y1.l.1 (xo_eb (FX9_nameLong_v y1 zz (t := 1) (by omega) hsc (by omega)) ?_)
        by_cases e : i = (snn (zS Z) 1 m).length
        · refine xo_t (by rw [e]; exact Int32.le_refl _) ?_
          rw [e] at y1
          refine xlp_inv (Po := fun m => xo m _) (fun i s' h2 => s' = nI i ∧ iw (rYa Y) h' h2 ∧ xi h2 Y 0 = 0 ∧ YI h2 Y (zst Z (wmB (tbd (zT Z) m) (wmN (snn (zS Z) 1 m) (snn (zS Z) 1 m).length) i))) (nuS (zS Z) m) (by omega) (fun a s' h2 ag' ha I again' => ?_) ⟨rfl, i1, z1, y1⟩
          obtain ⟨rfl, i2, z2, y2⟩ := I
          have M2 : YM h2 Y m (smu (zS Z) m) (sml (zS Z) m) (mdS (zS Z) (zT Z) m) := y2.1.1.ym hk
          refine xo_g y2.l.1 (xo_eb (FX9_uppers_v M2) ?_)
          by_cases e2 : a = nuS (zS Z) m
          · refine xo_t (by rw [e2]; exact Int32.le_refl _) ?_
            rw [e2] at y2
            refine xo_g y2.l.1 (xo_eb (y2.why hk) (xo_jn ?_))
            by_cases hw : whS (zS Z) (zT Z) m = 0
            · refine xo_t (show nI (whS (zS Z) (zT Z) m) = 0 by rw [hw]; rfl) ?_
              refine xo_g y2.l.1 (xo_v ⟨?_, i2, z2, ?_⟩)
              · unfold wmE; rw [if_pos hw]; exact y2.2.2.2.2.2.1
              · unfold wmE; rw [if_pos hw]; exact y2
            · refine xo_f (show ¬ nI (whS (zS Z) (zT Z) m) = 0 by rw [nI_eq0 (by omega)]; exact hw) (xo_g y2.l.1 (xo_b (says_o y2 (by omega) 59) (fun _ h4 q4 => ?_)))
              have y4 := q4.2.2
              refine xo_g y4.l.1 ?_
              rw [show (48 : Int32) + nI (whS (zS (zst Z (wmB (tbd (zT Z) m) (wmN (snn (zS Z) 1 m) (snn (zS Z) 1 m).length) (nuS (zS Z) m)))) (zT (zst Z (wmB (tbd (zT Z) m) (wmN (snn (zS Z) 1 m) (snn (zS Z) 1 m).length) (nuS (zS Z) m)))) m) = nI (48 + whS (zS Z) (zT Z) m) from a48 _]
              refine xo_b (says_o y4 (by rw [List.length_append, List.length_singleton]; omega) (48 + whS (zS Z) (zT Z) m)) (fun _ h5 q5 => ?_)
              refine xo_g q5.2.2.l.1 (xo_v ⟨?_, (i2.trans q4.1 (fun _ q => q) (fun _ q => q)).trans q5.1 (fun _ q => q) (fun _ q => q), by rw [q5.2.1, q4.2.1]; exact z2, ?_⟩)
              · unfold wmE; rw [if_neg hw]; exact q5.2.2.2.2.2.2.2.1
              · unfold wmE; rw [if_neg hw]; exact q5.2.2
          · have hlt : a < nuS (zS Z) m := by omega
            have n2a := n2 a
            rw [n1] at n2a
            refine xo_f (show ¬ nI (nuS (zS Z) m) ≤ nI a from nI_ge hlt (by omega)) (xo_jn ?_)
            have tail : ∀ c : Nat, c = (if a = 0 then 58 else 44) → xo ((fun (v15 : Int32) (h16 : XH) => xg (xk h16 Y = 10) <| xb (FX9_says E Y v15 h16) fun _ h17 => xg (xk h17 Y = 10) <| xb (FX9_boundaryOf E Y (nI m) (nI a) h17) fun v18 h19 => xg (xk h19 Y = 10) <| xb (FX9_says E Y (48 + v18) h19) fun _ h20 => ag' (nI a + 1) h20) (nI c) h2) (fun b h2 => b = nI (wmE (whS (zS Z) (zT Z) m) (wmB (tbd (zT Z) m) (wmN (snn (zS Z) 1 m) (snn (zS Z) 1 m).length) (nuS (zS Z) m))).length ∧ iw (rYa Y) h' h2 ∧ xi h2 Y 0 = 0 ∧ YI h2 Y (zst Z (wmE (whS (zS Z) (zT Z) m) (wmB (tbd (zT Z) m) (wmN (snn (zS Z) 1 m) (snn (zS Z) 1 m).length) (nuS (zS Z) m))))) := fun c ec => by
              refine xo_g y2.l.1 (xo_b (says_o y2 (by omega) c) (fun _ h4 q4 => ?_))
              have y4 := q4.2.2
              refine xo_g y4.l.1 (xo_eb (FX9_boundaryOf_v (y4.1.1.ym hk) hlt) (xo_g y4.l.1 ?_))
              rw [show (48 : Int32) + nI (dbd (mdS (zS (zst Z (wmB (tbd (zT Z) m) (wmN (snn (zS Z) 1 m) (snn (zS Z) 1 m).length) a ++ [c]))) (zT (zst Z (wmB (tbd (zT Z) m) (wmN (snn (zS Z) 1 m) (snn (zS Z) 1 m).length) a ++ [c]))) m) a) = nI (48 + tbd (zT Z) m a) from a48 _]
              refine xo_b (says_o y4 (by rw [List.length_append, List.length_singleton]; omega) (48 + tbd (zT Z) m a)) (fun _ h5 q5 => ?_)
              rw [nI_s]
              refine again' hlt _ _ ⟨rfl, (i2.trans q4.1 (fun _ q => q) (fun _ q => q)).trans q5.1 (fun _ q => q) (fun _ q => q), by rw [q5.2.1, q4.2.1]; exact z2, ?_⟩
              have := q5.2.2
              rw [ec] at this
              exact this
            by_cases e0 : a = 0
            · exact xo_t (by rw [e0]; rfl) (tail 58 (by rw [if_pos e0]))
            · exact xo_f (by rw [nI_eq0 (by omega)]; exact e0) (tail 44 (by rw [if_neg e0]))
        · have hlt : i < (snn (zS Z) 1 m).length := by omega
          have nm : xi h1 (Y + 7) (10 * (6 * 1 + m) + i) = nI ((snn (zS Z) 1 m).getD i 0) := y1.1.2 1 m i (by omega) hsc (by omega)
          have e10 : (10 : Int32) * nI (6 * 1 + m) + nI i = nI (10 * (6 * 1 + m) + i) := by rw [li10, nI_m, nI_a]
          refine xo_f (show ¬ nI (snn (zS Z) 1 m).length ≤ nI i from nI_ge hlt (by omega)) (xo_g y1.l.1 (xo_n y1.l.r7 ?_))
          rw [e10]
          refine xo_g (y1.l.g7 (by omega)) (xo_g y1.l.1 ?_)
          rw [xz_nI (by omega), nm]
          refine xo_b (says_o y1 (by rw [n1]; omega) _) (fun _ h4 q4 => ?_)
          rw [nI_s]
          exact again hlt _ _ ⟨rfl, i1.trans q4.1 (fun _ q => q) (fun _ q => q), by rw [q4.2.1]; exact z1, q4.2.2⟩
end AG
