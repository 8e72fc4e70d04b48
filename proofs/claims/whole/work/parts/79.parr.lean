/-! The reference reads: errors, numbers, names; what it holds meanwhile. -/
set_option linter.unusedVariables false
/-- error so far, token, what else holds while there is none -/
def RSy (h : XH) (Y : Nat) (B : BF) (er : ER) (t : TK) (Q : XH → Prop) : Prop := RLy h Y B ∧ match er with
  | some e => ((xi h Y 25 = nI e.1 ∧ xi h Y 26 = nI e.2) ∧ 1 ≤ e.1 ∧ e.1 ≤ 4) ∧ ∃ t', WK B t' ∧ RTk h Y B t'
  | none => xi h Y 25 = 0 ∧ (WK B t ∧ RTk h Y B t) ∧ Q h
/-- Q stays when only A is written -/
def StA (A : Nat → Nat → Prop) (Q : XH → Prop) : Prop := ∀ h h', fW A noR h h' → Q h → Q h'
/-- a number, or the least where there is an error -/
def vEr (e : ER) (lo v : Nat) : Nat := match e with
  | none => v
  | some _ => lo
/-- a name's letters, as its row has them -/
def RNm (h : XH) (Y : Nat) (S : SD) (s : Nat) : Prop := ∀ k i, k < scn S s → i < 10 → xi h (Y + 19) (10 * (6 * s + k) + i) = nI ((snn S s k).getD i 0)
def RNn (h : XH) (Y : Nat) (S : SD) (s : Nat) (w : List Nat) : Prop := ∀ i, i < 10 → xi h (Y + 19) (10 * (6 * s + scn S s) + i) = nI (w.getD i 0)
/-- where a new name is laid -/
def nY (Y : Nat) (S : SD) (s : Nat) : Nat → Nat → Prop := fun a j => oY Y a j ∨ (a = Y + 19 ∧ scn S s < mxS s ∧ 10 * (6 * s + scn S s) ≤ j ∧ j < 10 * (6 * s + scn S s) + 10)
section RSS
variable {E : XG} {h h' : XH} {Y i : Nat} {B : BF} {t : TK} {A : Nat → Nat → Prop} {er : ER} {Q : XH → Prop} {S : SD} {s9 : Nat}
theorem RSy.l (H : RSy h Y B er t Q) : RLy h Y B := H.1
theorem RSy.y (H : RSy h Y B er t Q) : YL h Y := H.1.1
theorem RTk_fw (k : RTk h Y B t) (w : fW A noR h h') (q : ∀ j, 21 ≤ j → j ≤ 24 → ¬ A Y j) : RTk h' Y B t := ⟨⟨(w.i (q _ (by omega) (by omega))).trans k.1.1, (w.i (q _ (by omega) (by omega))).trans k.1.2.1, (w.i (q _ (by omega) (by omega))).trans k.1.2.2⟩, fun z => (w.i (q _ (by omega) (by omega))).trans (k.2 z)⟩
/-- there is a token in any case -/
theorem RSy.tk (H : RSy h Y B er t Q) : ∃ t', WK B t' ∧ RTk h Y B t' := by
  cases er with
  | none => exact ⟨t, H.2.2.1⟩
  | some e => exact H.2.2
theorem RSy.wr (H : RSy h Y B er t Q) : (xi h Y 25 = 0) ↔ er = none := by
  cases er with
  | none => exact ⟨fun _ => rfl, fun _ => H.2.1⟩
  | some e =>
    have q := H.2.1
    rw [q.1.1]
    refine ⟨fun z => ?_, fun z => by cases z⟩
    rw [nI_eq0 (by omega)] at z
    omega
theorem fails_s (H : RSy h Y B er t Q) (hQ : StA (oY Y) Q) {code : Nat} (h1 : 1 ≤ code) (h4 : code ≤ 4) : xo (FX9_fails E Y (nI code) h) (fun _ h' => fW (oY Y) noR h h' ∧ RSy h' Y B (eo er (some (code, tkA t))) t Q) := by
  unfold FX9_fails
  refine xo_g H.y.1 (xo_jn ?_)
  cases er with
  | none =>
    refine xo_t H.2.1 (xo_g H.y.1 (xo_wi (fun h2 e2 => ?_)))
    have w2 : fW (oY Y) noR h h2 := fw_i e2 ⟨rfl, by omega, by omega⟩
    have y2 := YL_fw H.y w2
    refine xo_g y2.1 (xo_g y2.1 ?_)
    have a2 : xi h2 Y 22 = nI (tkA t) := (e_o e2 (Or.inr (by decide))).trans H.2.2.1.2.1.1
    rw [a2]
    refine xo_wi (fun h3 e3 => ?_)
    have w3 := w2.trans (fw_i (A := oY Y) (R := noR) e3 ⟨rfl, by omega, by omega⟩)
    refine xo_v ⟨w3, RLy_o H.1 w3, ⟨⟨(e_o e3 (Or.inr (by decide))).trans (e_s e2), e_s e3⟩, h1, h4⟩, t, H.2.2.1.1, ?_⟩
    exact RTk_fw (RTk_fw H.2.2.1.2 (A := fun a j => j = 25) (fw_i e2 rfl) (fun j _ _ => by omega)) (A := fun a j => j = 26) (fw_i e3 rfl) (fun j _ _ => by omega)
  | some e => exact xo_f (fun z => by cases (H.wr).mp z) (xo_v ⟨fW.refl _ _ _, H⟩)
theorem failsIf_s (H : RSy h Y B er t Q) (hQ : StA (oY Y) Q) {code : Nat} (h1 : 1 ≤ code) (h4 : code ≤ 4) {v : Int32} {c : Bool} (hv : er = none → v = bI c) : xo (FX9_failsIf E Y v (nI code) h) (fun _ h' => fW (oY Y) noR h h' ∧ RSy h' Y B (eo er (ck c code t)) t Q) := by
  unfold FX9_failsIf
  refine xo_jn ?_
  cases er with
  | none =>
    rw [hv rfl]
    cases c
    · exact xo_t rfl (xo_v ⟨fW.refl _ _ _, H⟩)
    · exact xo_f (by decide) (xo_g H.y.1 (xo_b (fails_s H hQ h1 h4) (fun _ h2 q => xo_v q)))
  | some e =>
    by_cases z : v = 0
    · exact xo_t z (xo_v ⟨fW.refl _ _ _, H⟩)
    · exact xo_f z (xo_g H.y.1 (xo_b (fails_s H hQ h1 h4) (fun _ h2 q => xo_v q)))
theorem goesOn_s (H : RSy h Y B er t Q) (hQ : StA (oY Y) Q) : xo (FX9_goesOn E Y h) (fun _ h' => fW (oY Y) noR h h' ∧ RSy h' Y B er (nx B t) Q) := by
  unfold FX9_goesOn
  refine xo_g H.y.1 (xo_jn ?_)
  cases er with
  | none =>
    refine xo_t H.2.1 (xo_g H.y.1 (xo_b (token_o H.1 H.2.2.1.2.1.2.1 H.2.2.1.1.1.2) (fun _ h2 q => ?_)))
    obtain ⟨w2, k2⟩ := q
    have w2' := fw_to w2
    exact xo_v ⟨w2', RLy_o H.1 w2', (w2.i (fun q => by unfold tY at q; omega)).trans H.2.1, ⟨nx_wk H.2.2.1.1, k2⟩, hQ _ _ w2' H.2.2.2⟩
  | some e => exact xo_f (fun z => by cases (H.wr).mp z) (xo_v ⟨fW.refl _ _ _, H⟩)
theorem in_v {x : Int32} {p2 p3 : Int32} {c : Bool} (hh : (¬ x < p2 ∧ ¬ p3 < x) ↔ c = true) : FX9_in E x p2 p3 h = xv (bI c) h := by
  unfold FX9_in
  rw [xjn_d, xjn_d]
  cases c
  · by_cases c1 : x < p2
    · (try dsimp only); (rw [if_pos c1])
      exact xg_t (show (0 : Int32) = 0 ∨ (0 : Int32) = 1 from Or.inl rfl)
    · have c2 : p3 < x := Decidable.byContradiction (fun z => by cases hh.mp ⟨c1, z⟩)
      (try dsimp only); (rw [if_neg c1, if_pos c2])
      exact xg_t (show (0 : Int32) = 0 ∨ (0 : Int32) = 1 from Or.inl rfl)
  · obtain ⟨c1, c2⟩ := hh.mpr rfl
    (try dsimp only); (rw [if_neg c1, if_neg c2])
    exact xg_t (show (1 : Int32) = 0 ∨ (1 : Int32) = 1 from Or.inr rfl)
theorem in_any (x p2 p3 : Int32) : ∃ c, FX9_in E x p2 p3 h = xv (bI c) h := ⟨decide (¬ x < p2 ∧ ¬ p3 < x), in_v (by rw [decide_eq_true_eq])⟩
theorem takes_s (H : RSy h Y B er t Q) (hQ : StA (oY Y) Q) {lo hi : Nat} (h1 : lo < 100) (h2 : hi < 100) : xo (FX9_takes E Y (nI lo) (nI hi) h) (fun v h' => fW (oY Y) noR h h' ∧ RSy h' Y B (eo er (eNu B lo hi t)) (nx B t) Q ∧ v = nI (vEr (eo er (eNu B lo hi t)) lo (vlT B t))) := by
  unfold FX9_takes
  refine xo_g H.y.1 (xo_jh (fun h2 => fW (oY Y) noR h h2 ∧ RSy h2 Y B (eo er (eNu B lo hi t)) t Q) (fun h2 q => ?_) (fun j jh => ?_))
  · obtain ⟨w2, H2⟩ := q
    refine xo_g H2.y.1 (xo_jp (fun v h3 => h3 = h2 ∧ v = nI (vEr (eo er (eNu B lo hi t)) lo (vlT B t))) (fun v h3 z => ?_) (fun j2 jh2 => ?_))
    · obtain ⟨rfl, rfl⟩ := z
      exact xo_g H2.y.1 (xo_b (goesOn_s H2 hQ) (fun _ h4 q => xo_v ⟨w2.trans q.1, q.2, rfl⟩))
    · generalize hE : eo er (eNu B lo hi t) = e at *
      cases e with
      | none =>
        have n1 := (eNu_0 (eo_none hE).2).1
        refine xo_t H2.2.1 (xo_g H2.y.1 (jh2 _ _ ⟨rfl, ?_⟩))
        exact H2.2.2.1.2.2 n1
      | some e => exact xo_f (fun z => by cases (H2.wr).mp z) (jh2 _ _ ⟨rfl, rfl⟩)
  · obtain ⟨t', wk', kt'⟩ := H.tk
    have k4' := wk'.2.2.2.2
    rw [kt'.1.2.2]
    cases er with
    | none =>
      have tt := H.2.2.1
      have k4 := tt.1.2.2.2.2
      have ek : tkK t' = tkK t := by
        have a := kt'.1.2.2
        have b := tt.2.1.2.2
        rw [a, nI_eqP (by omega) (by omega)] at b
        exact b
      rw [ek]
      by_cases c : tkK t = 2
      · have v100 := vlT_lt tt.1 c
        refine xo_t (by rw [c]; rfl) (xo_g H.y.1 ?_)
        rw [tt.2.2 c]
        have hh : (¬ nI (vlT B t) < nI lo ∧ ¬ nI hi < nI (vlT B t)) ↔ decide (lo ≤ vlT B t ∧ vlT B t ≤ hi) = true := by
          rw [nI_ltP (by omega) (by omega), nI_ltP (by omega) (by omega), decide_eq_true_eq]
          omega
        refine xo_eb (in_v hh) ?_
        by_cases c2 : lo ≤ vlT B t ∧ vlT B t ≤ hi
        · have e : eNu B lo hi t = none := by simp [eNu, ck, eo, c, c2]
          rw [decide_eq_true c2]
          refine xo_f (by decide) (jh _ ⟨fW.refl _ _ _, ?_⟩)
          rw [e]; exact H
        · have e : eNu B lo hi t = some (2, tkA t) := by
            unfold eNu ck
            rw [if_neg (by simp [c]), eo_n, if_pos (decide_eq_true c2)]
          rw [decide_eq_false c2]
          refine xo_t rfl (xo_g H.y.1 (xo_b (fails_s H hQ (code := 2) (by omega) (by omega)) (fun _ h3 q => jh _ ?_)))
          rw [e]; exact q
      · have e : eNu B lo hi t = some (1, tkA t) := by
          unfold eNu ck
          rw [if_pos (by simp [c])]
          rfl
        refine xo_f (by rw [li2, nI_eqP (by omega) (by omega)]; exact c) (xo_g H.y.1 (xo_b (fails_s H hQ (code := 1) (by omega) (by omega)) (fun _ h3 q => jh _ ?_)))
        rw [e]; exact q
    | some e =>
      by_cases c : nI (tkK t') = 2
      · obtain ⟨b, eb⟩ := in_any (E := E) (h := h) (xi h Y 24) (nI lo) (nI hi)
        refine xo_t c (xo_g H.y.1 (xo_eb eb ?_))
        cases b
        · exact xo_t rfl (xo_g H.y.1 (xo_b (fails_s H hQ (code := 2) (by omega) (by omega)) (fun _ h3 q => jh _ q)))
        · exact xo_f (by decide) (jh _ ⟨fW.refl _ _ _, H⟩)
      · exact xo_f c (xo_g H.y.1 (xo_b (fails_s H hQ (code := 1) (by omega) (by omega)) (fun _ h3 q => jh _ q)))
/-- is the word the name k places behind pl -/
def nmP (h : XH) (Y : Nat) (B : BF) (t : TK) (pl k : Nat) : Bool := decide (tkK t = 1) && !anyB 10 (fun i => decide (¬ xi h (Y + 19) (10 * (pl + k) + i) = nI (if tkA t + i < tkB t then B.1 (tkA t + i) else 0)))
theorem named_v (l : RLy h Y B) (w : WK B t) (kt : RTk h Y B t) {pl many : Nat} (hm : pl + many ≤ 20) : FX9_named E Y (nI pl) (nI many) h = xv (if fi many (nmP h Y B t pl) < many then nI (fi many (nmP h Y B t pl)) else -1) h := by
  have l9 := l.2.1.2
  obtain ⟨⟨k1, k2, k3⟩, -⟩ := kt
  have w4 := w.1
  have k4 := w.2.2.2.2
  have le := fi_le many (nmP h Y B t pl)
  unfold FX9_named
  refine xlp_inv (Po := fun m => m = xv (if fi many (nmP h Y B t pl) < many then nI (fi many (nmP h Y B t pl)) else -1) h) (fun i s' h' => s' = nI i ∧ h' = h) (fi many (nmP h Y B t pl)) (by omega) (fun i s' h' ag hi I again => ?_) ⟨rfl, rfl⟩
  obtain ⟨rfl, rfl⟩ := I
  by_cases e : i = many
  · rw [if_pos (show nI many ≤ nI i by rw [e]; exact Int32.le_refl _), if_neg (by omega)]
  · rw [if_neg (show ¬ nI many ≤ nI i by rw [nI_leP (by omega) (by omega)]; omega), xg_t l.1.1, xjn_d, k3]
    have hP : nmP h' Y B t pl i = true → fi many (nmP h' Y B t pl) = i := fun z => by
      rcases Nat.lt_or_ge i (fi many (nmP h' Y B t pl)) with q | q
      · rw [fi_not q] at z; cases z
      · omega
    have hN : nmP h' Y B t pl i = false → i < fi many (nmP h' Y B t pl) := fun z => by
      rcases Nat.lt_or_ge i (fi many (nmP h' Y B t pl)) with q | q
      · exact q
      · have q2 := fi_yes (m := many) (P := nmP h' Y B t pl) (by omega)
        rw [show fi many (nmP h' Y B t pl) = i by omega, z] at q2
        cases q2
    by_cases c : tkK t = 1
    · have wl := (w.2.1 c).1
      have wr := (w.2.1 c).2
      rw [if_pos (show nI (tkK t) = (1 : Int32) by rw [c]; rfl)]
      let P : Nat → Bool := fun i' => decide (¬ xi h' (Y + 19) (10 * (pl + i) + i') = nI (if tkA t + i' < tkB t then B.1 (tkA t + i') else 0))
      have eP : nmP h' Y B t pl i = !anyB 10 P := by
        show (decide (tkK t = 1) && _) = _
        rw [decide_eq_true c, Bool.true_and]
      have key := xlp_flag (α := Int32) (σ := Int32 × Int32) (body := fun again25 (s25 : Int32 × Int32) h4 => xjn (fun  (h5 : XH) => if (s25.1 : Int32) = 0 then (ag (nI i + 1) h5) else (xv (nI i) h5)) fun (j96 : XH → XP Int32) => if (10 : Int32) ≤ s25.2 then (j96 h4) else (if (s25.1 : Int32) = 0 then (j96 h4) else (xg (xk h4 Y = 10) <| xnn (xr h4 Y 34) fun w6 => xg (xk h4 w6 = 12 ∧ xin ((10 * (nI pl + nI i)) + s25.2) (xn h4 w6)) <| xg (xk h4 Y = 10) <| xg (xk h4 Y = 10) <| xjn (fun (v7 : Int32) (h8 : XH) => xjn (fun (v9 : Int32) (h10 : XH) => again25 (v9, (s25.2 + 1)) h10) fun (j88 : Int32 → XH → XP Int32) => if ((xi h4 w6 (((10 * (nI pl + nI i)) + s25.2) : Int32).toNatClampNeg) : Int32) = v7 then (j88 1 h8) else (j88 0 h8)) fun (j80 : Int32 → XH → XP Int32) => if ((xi h4 Y 21) : Int32) ≤ ((xi h4 Y 22) + s25.2) then (j80 0 h4) else (xg (xk h4 Y = 10) <| xg (xk h4 Y = 10) <| xb (FX9_seen E Y ((xi h4 Y 22) + s25.2) h4) fun v11 h12 => j80 v11 h12))))
        (fun k => ((0 : Int32), nI k)) (fun k => ((1 : Int32), nI k)) h' 10 P (R1 := ag (nI i + 1) h') (R2 := xv (nI i) h') (by omega) (fun k hk ag2 => ?_) (fun k hk ag2 => ?_) (fun ag2 => ?_)
      · refine key.trans ?_
        cases z : anyB 10 P
        · have z1 : nmP h' Y B t pl i = true := by rw [eP, z]; rfl
          rw [if_neg (by decide), hP z1, if_pos (by omega)]
        · have z1 : nmP h' Y B t pl i = false := by rw [eP, z]; rfl
          rw [if_pos rfl, nI_s]
          exact again (hN z1) _ _ ⟨rfl, rfl⟩
      · have cx : (10 : Int32) * (nI pl + nI i) + nI k = nI (10 * (pl + i) + k) := by rw [nI_a, li10, nI_m, nI_a]
        have g : xk h' (Y + 19) = 12 ∧ xin (nI (10 * (pl + i) + k)) (xn h' (Y + 19)) := l.1.g19 (by omega)
        have gz : (nI (10 * (pl + i) + k)).toNatClampNeg = 10 * (pl + i) + k := xz_nI (by omega)
        have F : ∀ x : Int32, x = nI (if tkA t + k < tkB t then B.1 (tkA t + k) else 0) → (xjn (fun (v9 : Int32) (h10 : XH) => ag2 (v9, (nI k + 1)) h10) fun (j88 : Int32 → XH → XP Int32) => if ((xi h' (Y + 19) (nI (10 * (pl + i) + k)).toNatClampNeg) : Int32) = x then (j88 1 h') else (j88 0 h')) = if P k then ag2 (0, nI (k + 1)) h' else ag2 (1, nI (k + 1)) h' := fun x hx => by
          have eP2 : P k = decide (¬ xi h' (Y + 19) (nI (10 * (pl + i) + k)).toNatClampNeg = x) := by rw [gz, hx]
          rw [eP2]
          (try dsimp only); (rw [xjn_d, nI_s])
          by_cases c4 : xi h' (Y + 19) (nI (10 * (pl + i) + k)).toNatClampNeg = x
          · rw [if_pos c4, if_neg (by simp [c4])]
          · rw [if_neg c4, if_pos (by simp only [decide_eq_true_eq]; exact c4)]
        (try dsimp only); (rw [xjn_d, if_neg (show ¬ (10 : Int32) ≤ nI k by rw [li10, nI_leP (by omega) (by omega)]; omega), if_neg (show ¬ (1 : Int32) = 0 by decide), xg_t (l.1.1), xnn_e (l.1.r19), cx, xg_t (g), xg_t (l.1.1), xg_t (l.1.1), xjn_d, k1, k2, nI_a])
        by_cases c2 : tkA t + k < tkB t
        · rw [if_neg (show ¬ nI (tkB t) ≤ nI (tkA t + k) by rw [nI_leP (by omega) (by omega)]; omega), xg_t l.1.1, xg_t l.1.1, xb_eq (seen_v l (show tkA t + k < 2 ^ 31 by omega))]
          refine F _ ?_
          rw [if_pos c2, if_pos (show tkA t + k < B.2 by omega)]
        · rw [if_pos (show nI (tkB t) ≤ nI (tkA t + k) by rw [nI_leP (by omega) (by omega)]; omega)]
          refine F _ ?_
          rw [if_neg c2]
          rfl
      · by_cases c5 : (10 : Int32) ≤ nI k
        · (try dsimp only); (rw [xjn_d, if_pos c5])
          exact if_pos (c := (0 : Int32) = 0) rfl
        · (try dsimp only); (rw [xjn_d, if_neg c5, if_pos (show (0 : Int32) = 0 from rfl)])
          exact if_pos (c := (0 : Int32) = 0) rfl
      · (try dsimp only); (rw [xjn_d, if_pos (show (10 : Int32) ≤ nI 10 by decide)])
        exact if_neg (c := (1 : Int32) = 0) (by decide)
    · rw [if_neg (show ¬ nI (tkK t) = (1 : Int32) by rw [li1, nI_eqP (by omega) (by omega)]; exact c)]
      have z1 : nmP h' Y B t pl i = false := by
        show (decide (tkK t = 1) && _) = false
        rw [decide_eq_false c, Bool.false_and]
      exact xlp_all (R := xv (if fi many (nmP h' Y B t pl) < many then nI (fi many (nmP h' Y B t pl)) else -1) h') (fun _ => ((0 : Int32), (0 : Int32))) (fun _ => h') 0 (by omega) (fun i hi => by omega) (fun ag2 => by
        (try dsimp only); (rw [xjn_d, if_neg (show ¬ (10 : Int32) ≤ 0 by decide), if_pos (show (0 : Int32) = 0 from rfl), nI_s])
        exact again (hN z1) _ _ ⟨rfl, rfl⟩)
theorem nmP_e (w : WK B t) (nm : WNm S) {s : Nat} (hs : s < 3) (hr : RNm h Y S s) (k1 : tkK t = 1) : fi (scn S s) (nmP h Y B t (6 * s)) = nmI S s (wdT B t) := by
  have ok := wdT_ok w k1
  have key : ∀ k, k < scn S s → nmP h Y B t (6 * s) k = decide (snn S s k = wdT B t) := fun k hk => by
    have n := nm s k hs hk
    have e := names_eq n.1.2 ok.1.2 n.2 ok.2
    unfold nmP
    rw [decide_eq_true k1, Bool.true_and]
    have d256 : ∀ i, (wdT B t).getD i 0 < 256 := fun i => by
      rcases Nat.lt_or_ge i (wdT B t).length with z | z
      · have := ok.2 _ (gD_mem z); omega
      · rw [gD_ge z]; omega
    have d256' : ∀ i, (snn S s k).getD i 0 < 256 := fun i => by
      rcases Nat.lt_or_ge i (snn S s k).length with z | z
      · have := n.2 _ (gD_mem z); omega
      · rw [gD_ge z]; omega
    cases z : anyB 10 (fun i => decide (¬ xi h (Y + 19) (10 * (6 * s + k) + i) = nI (if tkA t + i < tkB t then B.1 (tkA t + i) else 0)))
    · have z := anyB_f.mp z
      symm
      show decide _ = true
      rw [decide_eq_true_eq, e]
      intro i hi
      have q := Decidable.not_not.mp (of_decide_eq_false (z i hi))
      rw [hr k i hk hi, ← wdT_get, nI_eqP (by have := d256' i; omega) (by have := d256 i; omega)] at q
      exact q
    · obtain ⟨i, hi, q⟩ := anyB_iff.mp z
      have q := of_decide_eq_true q
      symm
      show decide _ = false
      rw [decide_eq_false_iff_not, e]
      intro z2
      apply q
      rw [hr k i hk hi, ← wdT_get, z2 i hi]
  unfold nmI
  refine fi_eq (fi_le _ _) (fun i hi => ?_) (fun hk => ?_)
  · have := fi_le (scn S s) (fun k => decide (snn S s k = wdT B t))
    rw [key i (by omega)]
    exact fi_not (m := scn S s) (P := fun k => decide (snn S s k = wdT B t)) hi
  · rw [key _ hk]
    exact fi_yes (m := scn S s) (P := fun k => decide (snn S s k = wdT B t)) hk
theorem nmP_0 (k1 : ¬ tkK t = 1) (many pl : Nat) : fi many (nmP h Y B t pl) = many := by
  refine fi_eq (Nat.le_refl _) (fun i hi => ?_) (fun hk => by omega)
  show (decide (tkK t = 1) && _) = false
  rw [decide_eq_false k1, Bool.false_and]
theorem ks_e {s : Nat} (ws : WS S) (hs : s < 3) : 6 * s + scn S s ≤ 20 := by
  have mx := scn_mx ws hs
  have : ∀ s, s < 3 → 6 * s + mxS s ≤ 20 := by decide
  have := this s hs
  omega
/-- one of some names -/
theorem oldName_s (H : RSy h Y B er t Q) (hQ : StA (oY Y) Q) (ws : WS S) (nm : WNm S) {s : Nat} (hs : s < 3) (hN : ∀ h', Q h' → RNm h' Y S s) : xo (FX9_oldName E Y (nI (6 * s)) (nI (scn S s)) h) (fun v h' => fW (oY Y) noR h h' ∧ RSy h' Y B (eo er (eKn B S s t)) t Q ∧ v = nI (vEr (eo er (eKn B S s t)) 0 (nmI S s (wdT B t)))) := by
  have k20 := ks_e ws hs
  have mx := scn_mx ws hs
  have m8 := mxS_8 s
  unfold FX9_oldName
  refine xo_g H.y.1 (xo_jp (fun v h1 => h1 = h ∧ (er = none → v = bI (decide (tkK t ≠ 1)))) (fun v h1 z => ?_) (fun j jh => ?_))
  · obtain ⟨rfl, hv⟩ := z
    refine xo_g H.y.1 (xo_b (failsIf_s H hQ (code := 1) (by omega) (by omega) hv) (fun _ h2 q => ?_))
    obtain ⟨w2, H2⟩ := q
    obtain ⟨t2, wk2, kt2⟩ := H2.tk
    refine xo_g H2.y.1 (xo_eb (named_v H2.1 wk2 kt2 k20) ?_)
    generalize hV : (if fi (scn S s) (nmP h2 Y B t2 (6 * s)) < scn S s then nI (fi (scn S s) (nmP h2 Y B t2 (6 * s))) else -1) = V
    have hV0 : eo er (ck (decide (tkK t ≠ 1)) 1 t) = none → V = if nmI S s (wdT B t) < scn S s then nI (nmI S s (wdT B t)) else -1 := fun z => by
      obtain ⟨z1, z2⟩ := eo_none z
      have k1 : tkK t = 1 := Decidable.not_not.mp (of_decide_eq_false (ck_none z2))
      have H3 := H2
      rw [z] at H3
      have tt := H3.2.2.1
      have d := hN _ H3.2.2.2
      rw [← hV]
      have et : fi (scn S s) (nmP h2 Y B t2 (6 * s)) = fi (scn S s) (nmP h2 Y B t (6 * s)) := by
        have e1 := kt2.1
        have e2 := tt.2.1
        have b2 := wk2.1
        have b1 := tt.1.1
        have l9 := H2.1.2.1.2
        have q1 := e1.1.symm.trans e2.1
        have q2 := e1.2.1.symm.trans e2.2.1
        have q3 := e1.2.2.symm.trans e2.2.2
        rw [nI_eqP (by omega) (by omega)] at q1 q2
        rw [nI_eqP (by have := wk2.2.2.2.2; omega) (by have := tt.1.2.2.2.2; omega)] at q3
        unfold nmP
        rw [q1, q2, q3]
      rw [et, nmP_e tt.1 nm hs d k1]
    refine xo_jp (fun v h3 => h3 = h2 ∧ (eo er (ck (decide (tkK t ≠ 1)) 1 t) = none → v = bI (decide (scn S s ≤ nmI S s (wdT B t))))) (fun v h3 z => ?_) (fun j2 jh2 => ?_)
    · obtain ⟨rfl, hv2⟩ := z
      have eA : eo (eo er (ck (decide (tkK t ≠ 1)) 1 t)) (ck (decide (scn S s ≤ nmI S s (wdT B t))) 3 t) = eo er (eKn B S s t) := eo_as _ _ _
      refine xo_g H2.y.1 (xo_b (failsIf_s H2 hQ (code := 3) (by omega) (by omega) hv2) (fun _ h4 q => ?_))
      obtain ⟨w4, H4⟩ := q
      rw [eA] at H4
      refine xo_g H4.y.1 (xo_jp (fun v h5 => h5 = h4 ∧ v = nI (vEr (eo er (eKn B S s t)) 0 (nmI S s (wdT B t)))) (fun v h5 z => ?_) (fun j3 jh3 => ?_))
      · obtain ⟨rfl, rfl⟩ := z
        exact xo_v ⟨w2.trans w4, H4, rfl⟩
      · generalize hE : eo er (eKn B S s t) = e at *
        cases e with
        | none =>
          obtain ⟨z1, z2⟩ := eo_none hE
          obtain ⟨z3, z4⟩ := eKn_0 z2
          refine xo_t H4.2.1 (jh3 _ _ ⟨rfl, ?_⟩)
          rw [hV0 (by rw [z1]; simp [eo, ck, z3]), if_pos z4]
          rfl
        | some e => exact xo_f (fun z => by cases (H4.wr).mp z) (jh3 _ _ ⟨rfl, rfl⟩)
    · by_cases c : V = -1
      · refine xo_t c (jh2 _ _ ⟨rfl, fun z => ?_⟩)
        have := hV0 z
        by_cases c2 : nmI S s (wdT B t) < scn S s
        · rw [if_pos c2] at this
          exact absurd (this.symm.trans c) (nI_ng1 (by omega))
        · rw [decide_eq_true (show scn S s ≤ nmI S s (wdT B t) by omega)]; rfl
      · refine xo_f c (jh2 _ _ ⟨rfl, fun z => ?_⟩)
        have := hV0 z
        by_cases c2 : nmI S s (wdT B t) < scn S s
        · rw [decide_eq_false (show ¬ scn S s ≤ nmI S s (wdT B t) by omega)]; rfl
        · rw [if_neg c2] at this
          exact absurd this c
  · cases er with
    | none =>
      have k4 := H.2.2.1.1.2.2.2.2
      rw [H.2.2.1.2.1.2.2]
      by_cases c : tkK t = 1
      · exact xo_t (by rw [c]; rfl) (jh _ _ ⟨rfl, fun _ => by rw [decide_eq_false (show ¬ tkK t ≠ 1 by omega)]; rfl⟩)
      · exact xo_f (by rw [li1, nI_eqP (by omega) (by omega)]; exact c) (jh _ _ ⟨rfl, fun _ => by rw [decide_eq_true (show tkK t ≠ 1 from c)]; rfl⟩)
    | some e =>
      by_cases c : xi h Y 23 = 1
      · exact xo_t c (jh _ _ ⟨rfl, fun z => by cases z⟩)
      · exact xo_f c (jh _ _ ⟨rfl, fun z => by cases z⟩)
theorem takesName_s (H : RSy h Y B er t Q) (hQ : StA (oY Y) Q) (ws : WS S) (nm : WNm S) {s : Nat} (hs : s < 3) (hN : ∀ h', Q h' → RNm h' Y S s) : xo (FX9_takesName E Y (nI (6 * s)) (nI (scn S s)) h) (fun v h' => fW (oY Y) noR h h' ∧ RSy h' Y B (eo er (eKn B S s t)) (nx B t) Q ∧ v = nI (vEr (eo er (eKn B S s t)) 0 (nmI S s (wdT B t)))) := by
  unfold FX9_takesName
  refine xo_g H.y.1 (xo_b (oldName_s H hQ ws nm hs hN) (fun v h1 q => ?_))
  obtain ⟨w1, H1, e1⟩ := q
  exact xo_g H1.y.1 (xo_b (goesOn_s H1 hQ) (fun _ h2 q2 => xo_v ⟨w1.trans q2.1, q2.2, e1⟩))
/-- a name that must be new -/
theorem newName_s (H : RSy h Y B er t Q) (hQ : StA (nY Y S s9) Q) (ws : WS S) (nm : WNm S) (hs : s9 < 3) (hN : ∀ h', Q h' → RNm h' Y S s9) (hm : er = none → scn S s9 < mxS s9) : xo (FX9_newName E Y (nI (6 * s9)) (nI (scn S s9)) h) (fun v h' => fW (nY Y S s9) noR h h' ∧ RSy h' Y B (eo er (eNm B S s9 t)) (nx B t) (fun h => Q h ∧ RNn h Y S s9 (wdT B t))) := by
  have k20 := ks_e ws hs
  have mx := scn_mx ws hs
  have m8 := mxS_8 s9
  have wo : ∀ {h h'}, fW (oY Y) noR h h' → fW (nY Y S s9) noR h h' := fun w => w.wide (fun a j q => Or.inl q) (fun a j q => q)
  have hO : StA (oY Y) Q := fun a b w q => hQ a b (wo w) q
  unfold FX9_newName
  refine xo_g H.y.1 (xo_jp (fun v h1 => h1 = h ∧ (er = none → v = bI (decide (tkK t ≠ 1)))) (fun v h1 z => ?_) (fun j jh => ?_))
  · obtain ⟨rfl, hv⟩ := z
    refine xo_g H.y.1 (xo_b (failsIf_s H hO (code := 1) (by omega) (by omega) hv) (fun _ h2 q => ?_))
    obtain ⟨w2, H2⟩ := q
    obtain ⟨t2, wk2, kt2⟩ := H2.tk
    refine xo_g H2.y.1 (xo_eb (named_v H2.1 wk2 kt2 k20) ?_)
    generalize hV : (if fi (scn S s9) (nmP h2 Y B t2 (6 * s9)) < scn S s9 then nI (fi (scn S s9) (nmP h2 Y B t2 (6 * s9))) else -1) = V
    have hV0 : eo er (ck (decide (tkK t ≠ 1)) 1 t) = none → V = if nmI S s9 (wdT B t) < scn S s9 then nI (nmI S s9 (wdT B t)) else -1 := fun z => by
      obtain ⟨z1, z2⟩ := eo_none z
      have k1 : tkK t = 1 := Decidable.not_not.mp (of_decide_eq_false (ck_none z2))
      have H3 := H2
      rw [z] at H3
      have tt := H3.2.2.1
      have d := hN _ H3.2.2.2
      rw [← hV]
      have et : fi (scn S s9) (nmP h2 Y B t2 (6 * s9)) = fi (scn S s9) (nmP h2 Y B t (6 * s9)) := by
        have e1 := kt2.1
        have e2 := tt.2.1
        have b2 := wk2.1
        have b1 := tt.1.1
        have l9 := H2.1.2.1.2
        have q1 := e1.1.symm.trans e2.1
        have q2 := e1.2.1.symm.trans e2.2.1
        have q3 := e1.2.2.symm.trans e2.2.2
        rw [nI_eqP (by omega) (by omega)] at q1 q2
        rw [nI_eqP (by have := wk2.2.2.2.2; omega) (by have := tt.1.2.2.2.2; omega)] at q3
        unfold nmP
        rw [q1, q2, q3]
      rw [et, nmP_e tt.1 nm hs d k1]
    refine xo_jp (fun v h3 => h3 = h2 ∧ (eo er (ck (decide (tkK t ≠ 1)) 1 t) = none → v = bI (decide (nmI S s9 (wdT B t) < scn S s9)))) (fun v h3 z => ?_) (fun j2 jh2 => ?_)
    · obtain ⟨rfl, hv2⟩ := z
      have eA : eo (eo er (ck (decide (tkK t ≠ 1)) 1 t)) (ck (decide (nmI S s9 (wdT B t) < scn S s9)) 3 t) = eo er (eNm B S s9 t) := eo_as _ _ _
      refine xo_g H2.y.1 (xo_b (failsIf_s H2 hO (code := 3) (by omega) (by omega) hv2) (fun _ h4 q => ?_))
      obtain ⟨w4, H4⟩ := q
      rw [eA] at H4
      have w14 := wo (w2.trans w4)
      generalize hE : eo er (eNm B S s9 t) = e at *
      have fin : ∀ h9, fW (nY Y S s9) noR h3 h9 → RSy h9 Y B e t (fun h => Q h ∧ RNn h Y S s9 (wdT B t)) → xo (xg (xk h9 Y = 10) <| xb (FX9_goesOn E Y h9) fun _ h11 => xv () h11) (fun v h' => fW (nY Y S s9) noR h1 h' ∧ RSy h' Y B e (nx B t) (fun h => Q h ∧ RNn h Y S s9 (wdT B t))) := fun h9 w9 H9 => by
        refine xo_g H9.y.1 (xo_b (goesOn_s H9 (fun a b w q => ⟨hO a b w q.1, fun i hi => (w.i (fun z => by unfold oY at z; omega)).trans (q.2 i hi)⟩)) (fun _ h11 q => xo_v ⟨((wo w2).trans w9).trans (wo q.1), q.2⟩))
      cases e with
      | none =>
        obtain ⟨z1, z2⟩ := eo_none hE
        have lt := hm z1
        have tt := H4.2.2.1
        have k1 := (eNm_0 z2).1
        have wl := (tt.1.2.1 k1).1
        have b1 := tt.1.1
        have l9 := H4.1.2.1.2
        refine xlp_inv (Po := fun m => xo m _) (fun i s' h' => s' = nI i ∧ fW (nY Y S s9) noR h4 h' ∧ (xi h' Y 25 = 0 ∧ RTk h' Y B t) ∧ ∀ k, k < i → xi h' (Y + 19) (10 * (6 * s9 + scn S s9) + k) = nI ((wdT B t).getD k 0)) 10 (by omega) (fun i s' h5 ag hi I again => ?_) ⟨rfl, fW.refl _ _ _, ⟨H4.2.1, tt.2⟩, fun k hk => absurd hk (Nat.not_lt_zero _)⟩
        obtain ⟨rfl, w5, ⟨a5, k5⟩, d5⟩ := I
        have l5 : RLy h5 Y B := RLy_fw H4.1 w5 (fun a j q => by unfold nY oY at q; omega)
        refine xo_jn ?_
        by_cases e : i = 10
        · subst e
          refine xo_t (by decide) (fin h5 ((wo w4).trans w5) ⟨l5, a5, ⟨tt.1, k5⟩, hQ _ _ w5 H4.2.2.2, d5⟩)
        · refine xo_f (by rw [li10, nI_leP (by omega) (by omega)]; omega) (xo_g l5.1.1 (xo_t a5 (xo_g l5.1.1 (xo_n l5.1.r19 (xo_g l5.1.1 (xo_g l5.1.1 ?_))))))
          have cx : (10 : Int32) * (nI (6 * s9) + nI (scn S s9)) + nI i = nI (10 * (6 * s9 + scn S s9) + i) := by rw [nI_a, li10, nI_m, nI_a]
          rw [cx, k5.1.1, k5.1.2.1, nI_a]
          have k19 : 6 * s9 + scn S s9 < 20 := by
            have : ∀ s, s < 3 → 6 * s + mxS s ≤ 20 := by decide
            have := this s9 hs
            omega
          refine xo_jp (fun v h6 => h6 = h5 ∧ v = nI ((wdT B t).getD i 0)) (fun v h6 z => ?_) (fun j3 jh3 => ?_)
          · obtain ⟨rfl, rfl⟩ := z
            refine xo_g (l5.1.g19 (by omega)) ?_
            rw [xz_nI (by omega), nI_s]
            refine xo_wi (fun h7 e7 => again (by omega) _ _ ⟨rfl, w5.trans (fw_i e7 (Or.inr ⟨rfl, lt, by omega, by omega⟩)), ⟨(e_o e7 (Or.inl (by omega))).trans a5, RTk_fw k5 (A := fun a j => a = Y + 19) (fw_i e7 rfl) (fun j _ _ => by omega)⟩, fun k hk => ?_⟩)
            by_cases c : k = i
            · rw [c]; exact e_s e7
            · rw [e_o e7 (Or.inr (by omega))]; exact d5 k (by omega)
          · by_cases c2 : tkA t + i < tkB t
            · refine xo_f (by rw [nI_leP (by omega) (by omega)]; omega) (xo_g l5.1.1 (xo_g l5.1.1 ?_))
              refine xo_eb (seen_v l5 (show tkA t + i < 2 ^ 31 by omega)) (jh3 _ _ ⟨rfl, ?_⟩)
              rw [if_pos (show tkA t + i < B.2 by omega), wdT_get, if_pos c2]
            · refine xo_t (by rw [nI_leP (by omega) (by omega)]; omega) (jh3 _ _ ⟨rfl, ?_⟩)
              rw [wdT_get, if_neg c2]
              rfl
      | some e =>
        have H9 : RSy h4 Y B (some e) t (fun h => Q h ∧ RNn h Y S s9 (wdT B t)) := ⟨H4.1, H4.2⟩
        refine xlp_inv (Po := fun m => xo m _) (fun i s' h' => i = 0 ∧ s' = 0 ∧ h' = h4) 1 (by omega) (fun i s' h5 ag hi I again => ?_) ⟨rfl, rfl, rfl⟩
        obtain ⟨rfl, rfl, rfl⟩ := I
        exact xo_jn (xo_f (by decide) (xo_g H4.y.1 (xo_f (fun z => by cases (H4.wr).mp z) (fin h5 (wo w4) H9))))
    · by_cases c : V = -1
      · refine xo_t c (jh2 _ _ ⟨rfl, fun z => ?_⟩)
        have := hV0 z
        by_cases c2 : nmI S s9 (wdT B t) < scn S s9
        · rw [if_pos c2] at this
          exact absurd (this.symm.trans c) (nI_ng1 (by omega))
        · rw [decide_eq_false c2]; rfl
      · refine xo_f c (jh2 _ _ ⟨rfl, fun z => ?_⟩)
        have := hV0 z
        by_cases c2 : nmI S s9 (wdT B t) < scn S s9
        · rw [decide_eq_true c2]; rfl
        · rw [if_neg c2] at this
          exact absurd this c
  · cases er with
    | none =>
      have k4 := H.2.2.1.1.2.2.2.2
      rw [H.2.2.1.2.1.2.2]
      by_cases c : tkK t = 1
      · exact xo_t (by rw [c]; rfl) (jh _ _ ⟨rfl, fun _ => by rw [decide_eq_false (show ¬ tkK t ≠ 1 by omega)]; rfl⟩)
      · exact xo_f (by rw [li1, nI_eqP (by omega) (by omega)]; exact c) (jh _ _ ⟨rfl, fun _ => by rw [decide_eq_true (show tkK t ≠ 1 from c)]; rfl⟩)
    | some e =>
      by_cases c : xi h Y 23 = 1
      · exact xo_t c (jh _ _ ⟨rfl, fun z => by cases z⟩)
      · exact xo_f c (jh _ _ ⟨rfl, fun z => by cases z⟩)
end RSS
