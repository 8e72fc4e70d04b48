/-! The reference's load. -/
set_option linter.unusedVariables false
/-- the state behind a load: refused, done -/
def zEr (Z : ZD) (c p : Nat) : ZD := (zld Z, zS Z, zT Z, (zun Z, zu Z), zk Z, (0, zbf Z), (nI c, nI p), (ztl Z, ztx Z))
def zLd (Z : ZD) (S : SD) (T : ST) : ZD := (true, S, T, (0, fun _ => T0), (fun _ => none), (0, zbf Z), (0, -1), (ztl Z, ztx Z))
theorem zEr_wz {Z : ZD} (z : WZ Z) (c p : Nat) : WZ (zEr Z c p) := ⟨z.1, z.2.1, z.2.2.1, z.2.2.2.1, ⟨by show 0 ≤ 900; omega, fun i hi => absurd hi (Nat.not_lt_zero _)⟩, z.2.2.2.2.2⟩
theorem zLd_wz {Z : ZD} (z : WZ Z) {S : SD} (nm : WNm S) (T : ST) : WZ (zLd Z S T) := ⟨fun q => (by cases q), nm, ⟨by show 0 ≤ 8; omega, fun i hi => absurd hi (Nat.not_lt_zero _)⟩, fun i T' hi q => (by cases q), ⟨by show 0 ≤ 900; omega, fun i hi => absurd hi (Nat.not_lt_zero _)⟩, z.2.2.2.2.2⟩
/-- the bytes that a load reads -/
def zBF (Z : ZD) (n : Nat) : BF := (zbf Z, n)
theorem nLoop_wa {B : BF} : ∀ (f : Nat) {A : PA}, WA B A → eLoop B f A = none → WA B (nLoop B f A)
  | 0, A, w, _ => w
  | f + 1, A, w, e => by
    by_cases k : tkK (paK A) = 3
    · rw [eLoop_s k] at e
      rw [nLoop_s k]
      obtain ⟨e1, e2⟩ := eo_none e
      exact nLoop_wa f (nLine_wa (aNx_wa w) e1) e2
    · rw [nLoop_e k]; exact w
theorem tkE_wa {B : BF} (e : eText B = none) : WA B (tkE B) := nLoop_wa 900 (A00_wa B) (eo_none (eo_none e).2).1
theorem eLoop_ok {B : BF} : ∀ (f : Nat) {A : PA}, WA B A → eOK B (eLoop B f A)
  | 0, A, w => eOK_n B
  | f + 1, A, w => by
    by_cases k : tkK (paK A) = 3
    · rw [eLoop_s k]
      cases e : eLine B (aNx B A) with
      | some er => rw [eo_s, ← e]; exact eLine_ok (aNx_wa w).1
      | none => rw [eo_n]; exact eLoop_ok f (nLine_wa (aNx_wa w) e)
    · rw [eLoop_e k]; exact eOK_n B
theorem eText_ok (B : BF) : eOK B (eText B) := by
  unfold eText
  refine eOK_eo (eOK_ck (by omega) (by omega) (tkF_wk (Nat.zero_le _))) ?_
  cases e : eLoop B 900 (A00 B) with
  | some er => rw [eo_s, ← e]; exact eLoop_ok 900 (A00_wa B)
  | none => rw [eo_n]; exact eOK_ck (by omega) (by omega) (nLoop_wa 900 (A00_wa B) e).1
section LDR
variable {E : XG} {h h' h1 h2 : XH} {Y i p n : Nat} {Z : ZD}
theorem yk12 (y : YL h Y) {a : Nat} (h1 : Y + 12 ≤ a) (h2 : a ≤ Y + 20) : xk h a = 12 := by
  have : a = Y + 12 ∨ a = Y + 13 ∨ a = Y + 14 ∨ a = Y + 15 ∨ a = Y + 16 ∨ a = Y + 17 ∨ a = Y + 18 ∨ a = Y + 19 ∨ a = Y + 20 := by omega
  rcases this with rfl | rfl | rfl | rfl | rfl | rfl | rfl | rfl | rfl
  · exact y.k12
  · exact y.k13
  · exact y.k14
  · exact y.k15
  · exact y.k16
  · exact y.k17
  · exact y.k18
  · exact y.k19
  · exact y.k20
theorem copies_o {p1 p2 : Nat} (h1 : xk h p1 = 12 ∧ xn h p1 = n) (h2 : xk h p2 = 12 ∧ xn h p2 = n) (hp : ¬ p1 = p2) (hn : n < 9000) : xo (FX9_copies E p1 p2 h) (fun _ h' => iw (fun a => a = p2) h h' ∧ ∀ k, k < n → xi h' p2 k = xi h p1 k) := by
  unfold FX9_copies
  refine xlp_inv (Po := fun m => xo m _) (fun i s h' => s = nI i ∧ iw (fun a => a = p2) h h' ∧ ∀ k, k < i → xi h' p2 k = xi h p1 k) n hn (fun i s h3 ag hi I again => ?_) ⟨rfl, iw.refl _ _, fun k hk => absurd hk (Nat.not_lt_zero _)⟩
  obtain ⟨rfl, i3, d3⟩ := I
  refine xo_g ((i3.k _).trans h2.1) ?_
  rw [(i3.n _).trans h2.2]
  by_cases e : i = n
  · subst e
    exact xo_t (Int32.le_refl _) (xo_v ⟨i3, d3⟩)
  · have hlt : i < n := by omega
    refine xo_f (nI_ge hlt (by omega)) (xo_g ⟨(i3.k _).trans h1.1, by rw [(i3.n _).trans h1.2]; exact xin_nI hlt (by omega)⟩ (xo_g ⟨(i3.k _).trans h2.1, xin_nI hlt (by omega)⟩ ?_))
    rw [xz_nI (by omega), nI_s]
    refine xo_wi (fun h4 e4 => again hlt _ _ ⟨rfl, by rw [e4]; exact i3.yi _ _ _ rfl, fun k hk => ?_⟩)
    by_cases z : k = i
    · rw [z, e_s e4]; exact i3.i _ hp
    · rw [e_o e4 (Or.inr z)]; exact d3 k (by omega)
theorem refuse_1h (y : YL h Y) (e : xi h Y 0 = 0) {c : Int32} (hc : ¬ c = 0) : FX9_refuse E Y 1 c h = xv 1 (yi h Y 0 c) := by
  unfold FX9_refuse
  (try dsimp only); (rw [xg_t (y.1), xjn_d, if_pos e, if_neg (show ¬ (1 : Int32) = 0 by decide), xg_t (y.1), xlt_d])
  have k : xk (yi h Y 0 c) Y = 10 := y.1
  (try dsimp only); (rw [xg_t (k), xjn_d, if_neg (show ¬ xi (yi h Y 0 c) Y 0 = 0 by rw [xi_yi1]; exact hc)])
  exact xg_t (show (1 : Int32) = 0 ∨ (1 : Int32) = 1 from Or.inr rfl)
/-- a refused load -/
theorem YI_er {c q : Nat} (y : YI h Y Z) (i : iw (fun a => a = Y ∨ (Y + 12 ≤ a ∧ a ≤ Y + 20)) h h') (hk : ∀ k, (k = 1 ∨ k = 2 ∨ k = 3 ∨ k = 4 ∨ k = 14 ∨ k = 43) → xi h' Y k = xi h Y k) (h17 : xi h' Y 17 = 0) (h18 : xi h' Y 18 = nI c) (h19 : xi h' Y 19 = nI q) : YI h' Y (zEr Z c q) := by
  obtain ⟨⟨⟨y0, ⟨c1, c2, c3⟩, y1, y1'⟩, y2⟩, ⟨y3, y4, y5⟩, ⟨y6, y7⟩, y8, ⟨y9, y10⟩, y11, y12⟩ := y
  refine ⟨⟨⟨y0, ⟨(hk _ (by omega)).trans c1, (hk _ (by omega)).trans c2, (hk _ (by omega)).trans c3⟩, y1.iw i (fun a q => by omega), y1'.iw i (by omega)⟩, fun s k j hs hk' hj => ?_⟩, ⟨(hk _ (by omega)).trans y3, h18, h19⟩, ⟨(hk _ (by omega)).trans y6, fun j hj => (y7 j hj).iw i (by omega)⟩, fun j hj => ⟨?_, fun T hT => ((y8 j hj).2 T hT).iw i (by omega)⟩, ⟨h17, fun j hj => absurd hj (Nat.not_lt_zero _)⟩, (hk _ (by omega)).trans y11, fun j hj => ?_⟩
  · rw [i.i _ (by omega)]; exact y2 s k j hs hk' hj
  · rw [i.i _ (by omega)]; exact (y8 j hj).1
  · rw [i.i _ (by omega)]; exact y12 j hj
/-- a load that is done -/
theorem YI_ld {S : SD} {T : ST} {D : Nat → Int32} (y : YI h Y Z) (c : RQy h1 Y S T D) (ws : WS S) (wt : WT S T) (yl : YL h2 Y) (cp : (∀ k, k < 6 → xi h2 (Y + 1) k = xi h1 (Y + 13) k) ∧ (∀ k, k < 384 → xi h2 (Y + 2) k = xi h1 (Y + 14) k) ∧ (∀ k, k < 6 → xi h2 (Y + 3) k = xi h1 (Y + 15) k) ∧ (∀ k, k < 6 → xi h2 (Y + 4) k = xi h1 (Y + 16) k) ∧ (∀ k, k < 8 → xi h2 (Y + 5) k = xi h1 (Y + 17) k) ∧ (∀ k, k < 8 → xi h2 (Y + 6) k = xi h1 (Y + 18) k) ∧ (∀ k, k < 200 → xi h2 (Y + 7) k = xi h1 (Y + 19) k) ∧ ∀ k, k < 563 → xi h2 (Y + 8) k = xi h1 (Y + 12) k) (f : xi h2 Y 1 = 1 ∧ xi h2 Y 2 = nI (sng S) ∧ xi h2 Y 3 = nI (snm S) ∧ xi h2 Y 4 = nI (sna S) ∧ xi h2 Y 14 = 0 ∧ xi h2 Y 17 = 0 ∧ xi h2 Y 18 = 0 ∧ xi h2 Y 19 = -1 ∧ xi h2 Y 43 = xi h Y 43) (k10 : ∀ i, i < 2 → xi h2 (Y + 10) i = 0) (t24 : ∀ j, xi h2 (Y + 24) j = xi h (Y + 24) j) : YI h2 Y (zLd Z S T) := by
  obtain ⟨c1, c2, c3, c4, c5, c6⟩ := c
  obtain ⟨p1, p2, p3, p4, p5, p6, p7, p8⟩ := cp
  obtain ⟨f1, f2, f3, f4, f14, f17, f18, f19, f43⟩ := f
  obtain ⟨⟨w1, w2, w3⟩, w4, w5, w6⟩ := id ws
  have n8 : ∀ m, m < snm S → nuS S m ≤ 8 ∧ nlS2 S m ≤ 8 := fun m hm => ⟨(w4 _ (w5 m hm).1).1.2, (w4 _ (w5 m hm).2).1.2⟩
  have hMI : MI h2 Y S T ∧ NM h2 Y S := by
    refine ⟨⟨⟨ws, wt⟩, ⟨f2, f3, f4⟩, ⟨yl, fun g hg => ⟨(p1 g (by omega)).trans (c2 g hg).1, fun a b ha hb => ?_⟩, fun m hm => ⟨(p3 m (by omega)).trans (c3 m hm).1, (p4 m (by omega)).trans (c3 m hm).2.1⟩, fun a ha => ⟨(p5 a (by omega)).trans (c4 a ha).1, (p6 a (by omega)).trans (c4 a ha).2⟩⟩, fun m a q1 q2 => ?_, fun m g a q1 q2 q3 => ?_, fun a x q1 q2 => ?_, fun a x q1 q2 => ?_, fun x q1 => (p8 _ (by omega)).trans (c5.2.2.2.2 x q1)⟩, fun s k j hs hk hj => ?_⟩
    · have g8 := (w4 g hg).1.2
      rw [Nat.add_assoc]
      exact (p2 _ (by omega)).trans ((c2 g hg).2 a b ha hb)
    · have := n8 m q1
      exact (p8 _ (by omega)).trans (c5.1 m a q1 q2)
    · have := n8 m q1
      exact (p8 _ (by omega)).trans (c5.2.1 m g a q1 q2 q3)
    · have := n8 _ (w6 a q1).1
      exact (p8 _ (by omega)).trans (c5.2.2.1 a x q1 q2)
    · have := n8 _ (w6 a q1).1
      exact (p8 _ (by omega)).trans (c5.2.2.2.1 a x q1 q2)
    · have k20 := ks_e ws hs
      have hk : k < scn S s := hk
      exact (p7 _ (by omega)).trans (c6 s hs k j hk hj)
  exact ⟨hMI, ⟨f1, f18, f19⟩, ⟨f14, fun j hj => absurd hj (Nat.not_lt_zero _)⟩, fun j hj => ⟨k10 j hj, fun T hT => (by cases hT)⟩, ⟨f17, fun j hj => absurd hj (Nat.not_lt_zero _)⟩, f43.trans y.2.2.2.2.2.1, fun j hj => (t24 j).trans (y.2.2.2.2.2.2 j hj)⟩
theorem R_load (y : YI h Y Z) (z : WZ Z) (hn : n ≤ zfl Z) : xo (FX9_load E Y (nI n) h) (fun b h2 => iw (rYa Y) h h2 ∧ match eText (zBF Z n) with
    | some e => b = 0 ∧ xi h2 Y 0 = 2 ∧ YI h2 Y (zEr Z e.1 e.2)
    | none => b = nI (snm (paZ (tkE (zBF Z n)))) ∧ xi h2 Y 0 = 0 ∧ YI h2 Y (zLd Z (paZ (tkE (zBF Z n))) (paT (tkE (zBF Z n))))) := by
  have y0 := y.t 0
  have yl := y.l
  have z900 := z.2.2.2.2.1.1
  have ok := eText_ok (zBF Z n)
  have e17 : xi h Y 17 = nI (zfl Z) := y.2.2.2.2.1.1
  unfold FX9_load
  refine xo_g yl.1 (xo_wi (fun h1 e1 => ?_))
  have w1 : fW (fun a j => a = Y) noR h h1 := fw_i e1 rfl
  have y1 := YL_fw yl w1
  have a17 : xi h1 Y 17 = nI (zfl Z) := (e_o e1 (Or.inr (by decide))).trans e17
  refine xo_g y1.1 ?_
  rw [a17]
  refine xo_eb (in_v (c := true) ⟨fun _ => rfl, fun _ => ⟨by rw [nI_lt0 (by omega)]; exact id, by rw [nI_ltP (by omega) (by omega)]; omega⟩⟩) (xo_jn (xo_f (by decide) (xo_g y1.1 (xo_eb (refuse_0g y1 (e_s e1) 1) (xo_t rfl (xo_g y1.1 (xo_wi (fun h2 e2 => ?_))))))))
  have w2 : fW (fun a j => a = Y) noR h h2 := w1.trans (fw_i e2 rfl)
  have y2 := YL_fw yl w2
  refine xo_g y2.1 (xo_b (reads_o (B := zBF Z n) y2 (Nat.le_trans hn z900) (fun i hi => ⟨(w2.i (fun q => by omega)).trans (y.2.2.2.2.1.2 i (Nat.lt_of_lt_of_le hi hn)), z.2.2.2.2.1.2 i (Nat.lt_of_lt_of_le hi hn)⟩)) (fun _ h3 q => ?_))
  obtain ⟨w3, H3⟩ := q
  have y3 := H3.y
  have a0 : xi h3 Y 0 = 0 := (w3.i (fun q => by unfold yRd at q; omega)).trans ((e_o e2 (Or.inr (by decide))).trans (e_s e1))
  have a17' : xi h3 Y 17 = 0 := (w3.i (fun q => by unfold yRd at q; omega)).trans (e_s e2)
  have old3 : ∀ k, (k = 1 ∨ k = 2 ∨ k = 3 ∨ k = 4 ∨ k = 14 ∨ k = 43) → xi h3 Y k = xi h Y k := fun k hk => (w3.i (fun q => by unfold yRd at q; omega)).trans ((e_o e2 (Or.inr (by omega))).trans (e_o e1 (Or.inr (by omega))))
  refine xo_g y3.1 (xo_g y3.1 (xo_wi (fun h4 e4 => ?_)))
  have y4 : YL h4 Y := YL_fw y3 (A := fun a j => a = Y) (fw_i e4 rfl)
  have b25 : xi h4 Y 25 = xi h3 Y 25 := e_o e4 (Or.inr (by decide))
  have b26 : xi h4 Y 26 = xi h3 Y 26 := e_o e4 (Or.inr (by decide))
  have wA : fW (fun a j => a = Y ∨ (Y + 12 ≤ a ∧ a ≤ Y + 20)) noR h h4 := ((w2.wide (fun a j q => Or.inl q) (fun a j q => q)).trans (w3.wide (fun a j q => by
    rcases q with q | q | q
    · exact Or.inl q.1
    · exact Or.inl q.1
    · exact Or.inr q) (fun a j q => q))).trans (fw_i e4 (Or.inl rfl))
  have kn : ∀ a (j : Nat), (a = Y ∨ (Y + 12 ≤ a ∧ a ≤ Y + 20)) → (a = Y ∨ (Y + 12 ≤ a ∧ a ≤ Y + 20)) ∧ ¬ (xk h a = 13 ∨ xk h a = 7) := fun a j q => ⟨q, by
    rcases q with q | q
    · rw [q, yl.1]; decide
    · rw [yk12 yl q.1 q.2]; decide⟩
  refine xo_g y4.1 ?_
  cases hE : eText (zBF Z n) with
  | some e =>
    rw [hE] at H3
    obtain ⟨⟨⟨q1, q2⟩, q3⟩, t', q4, q5⟩ := H3.2
    have ne : ¬ xi h4 Y 25 = 0 := by
      rw [b25, q1, nI_eq0 (by omega)]
      omega
    refine xo_jn (xo_f ne (xo_g y4.1 ?_))
    rw [b26, q2]
    refine xo_g y4.1 (xo_wi (fun h5 e5 => ?_))
    have y5 : YL h5 Y := YL_fw y4 (A := fun a j => a = Y) (fw_i e5 rfl)
    refine xo_g y5.1 (xo_jn (xo_f ?_ (xo_g y5.1 ?_)))
    · rw [e_o e5 (Or.inr (by decide))]; exact ne
    have a05 : xi h5 Y 0 = 0 := (e_o e5 (Or.inr (by decide))).trans ((e_o e4 (Or.inr (by decide))).trans a0)
    refine xo_eb (refuse_1h (c := 2) y5 a05 (by decide)) (xo_f (by decide) ?_)
    obtain ⟨h6, e6⟩ : ∃ h6, h6 = yi h5 Y 0 2 := ⟨_, rfl⟩
    rw [← e6]
    have wB : fW (fun a j => a = Y ∨ (Y + 12 ≤ a ∧ a ≤ Y + 20)) noR h h6 := (wA.trans (fw_i e5 (Or.inl rfl))).trans (fw_i e6 (Or.inl rfl))
    have iB := iw_fw wB kn
    refine xo_v ⟨iB.wide (fun a q => by unfold rYa; omega), rfl, e_s e6, YI_er y iB (fun k hk => ?_) ?_ ?_ ?_⟩
    · rw [e_o e6 (Or.inr (by omega)), e_o e5 (Or.inr (by omega)), e_o e4 (Or.inr (by omega))]; exact old3 k hk
    · rw [e_o e6 (Or.inr (by omega)), e_o e5 (Or.inr (by omega)), e_o e4 (Or.inr (by omega))]; exact a17'
    · rw [e_o e6 (Or.inr (by omega)), e_o e5 (Or.inr (by omega)), e_s e4]; exact q1
    · rw [e_o e6 (Or.inr (by omega)), e_s e5]
  | none =>
    rw [hE] at H3
    obtain ⟨q1, -, q3⟩ := H3.2
    have wa := tkE_wa hE
    generalize tkE (zBF Z n) = A at *
    have z4 : xi h4 Y 25 = 0 := b25.trans q1
    refine xo_jn (xo_t z4 (xo_g y4.1 (xo_wi (fun h5 e5 => ?_))))
    have y5 : YL h5 Y := YL_fw y4 (A := fun a j => a = Y) (fw_i e5 rfl)
    refine xo_g y5.1 (xo_jn (xo_t ((e_o e5 (Or.inr (by decide))).trans z4) (xo_g y5.1 ?_)))
    have a05 : xi h5 Y 0 = 0 := (e_o e5 (Or.inr (by decide))).trans ((e_o e4 (Or.inr (by decide))).trans a0)
    refine xo_eb (refuse_0g y5 a05 2) (xo_t rfl (xo_g ⟨y5.1, Or.inr rfl⟩ (xo_wi (fun h6 e6 => ?_))))
    have y6 : YL h6 Y := YL_fw y5 (A := fun a j => a = Y) (fw_i e6 rfl)
    have f6 : ∀ k, (k = 35 ∨ k = 36 ∨ k = 37) → xi h6 Y k = xi h3 Y k := fun k hk => by rw [e_o e6 (Or.inr (by omega)), e_o e5 (Or.inr (by omega)), e_o e4 (Or.inr (by omega))]
    refine xo_g y6.1 (xo_g y6.1 ?_)
    rw [(f6 35 (by omega)).trans q3.1.1]
    refine xo_wi (fun h7 e7 => ?_)
    have y7 : YL h7 Y := YL_fw y6 (A := fun a j => a = Y) (fw_i e7 rfl)
    refine xo_g y7.1 (xo_g y7.1 ?_)
    rw [show xi h7 Y 36 = nI (snm (paZ A)) from (e_o e7 (Or.inr (by decide))).trans ((f6 36 (by omega)).trans q3.1.2.1)]
    refine xo_wi (fun h8 e8 => ?_)
    have y8 : YL h8 Y := YL_fw y7 (A := fun a j => a = Y) (fw_i e8 rfl)
    refine xo_g y8.1 (xo_g y8.1 ?_)
    rw [show xi h8 Y 37 = nI (sna (paZ A)) from (e_o e8 (Or.inr (by decide))).trans ((e_o e7 (Or.inr (by decide))).trans ((f6 37 (by omega)).trans q3.1.2.2))]
    refine xo_wi (fun h9 e9 => ?_)
    have v9 : fW (fun a j => a = Y) noR h4 h9 := ((((fw_i (R := noR) (A := fun a j => a = Y) e5 rfl).trans (fw_i e6 rfl)).trans (fw_i e7 rfl)).trans (fw_i e8 rfl)).trans (fw_i e9 rfl)
    have v39 : fW (fun a j => a = Y) noR h3 h9 := (fw_i (R := noR) (A := fun a j => a = Y) e4 rfl).trans v9
    have y9 := YL_fw y4 v9
    have i9 : iw (fun a => a = Y ∨ (Y + 12 ≤ a ∧ a ≤ Y + 20)) h h9 := iw_fw (wA.trans (v9.wide (fun a j q => Or.inl q) (fun a j q => q))) kn
    -- the fields as they stand
    have g9 : xi h9 Y 1 = 1 ∧ xi h9 Y 2 = nI (sng (paZ A)) ∧ xi h9 Y 3 = nI (snm (paZ A)) ∧ xi h9 Y 4 = nI (sna (paZ A)) ∧ xi h9 Y 17 = 0 ∧ xi h9 Y 18 = 0 ∧ xi h9 Y 19 = -1 ∧ xi h9 Y 43 = xi h Y 43 ∧ xi h9 Y 0 = 0 := by
      refine ⟨?_, ?_, ?_, ?_, ?_, ?_, ?_, ?_, ?_⟩
      · rw [e_o e9 (Or.inr (by decide)), e_o e8 (Or.inr (by decide)), e_o e7 (Or.inr (by decide)), e_s e6]
      · rw [e_o e9 (Or.inr (by decide)), e_o e8 (Or.inr (by decide)), e_s e7]
      · rw [e_o e9 (Or.inr (by decide)), e_s e8]
      · exact e_s e9
      · rw [e_o e9 (Or.inr (by decide)), e_o e8 (Or.inr (by decide)), e_o e7 (Or.inr (by decide)), e_o e6 (Or.inr (by decide)), e_o e5 (Or.inr (by decide)), e_o e4 (Or.inr (by decide))]; exact a17'
      · rw [e_o e9 (Or.inr (by decide)), e_o e8 (Or.inr (by decide)), e_o e7 (Or.inr (by decide)), e_o e6 (Or.inr (by decide)), e_o e5 (Or.inr (by decide)), e_s e4]; exact q1
      · rw [e_o e9 (Or.inr (by decide)), e_o e8 (Or.inr (by decide)), e_o e7 (Or.inr (by decide)), e_o e6 (Or.inr (by decide)), e_s e5]
      · rw [e_o e9 (Or.inr (by decide)), e_o e8 (Or.inr (by decide)), e_o e7 (Or.inr (by decide)), e_o e6 (Or.inr (by decide)), e_o e5 (Or.inr (by decide)), e_o e4 (Or.inr (by decide))]; exact old3 43 (by omega)
      · rw [e_o e9 (Or.inr (by decide)), e_o e8 (Or.inr (by decide)), e_o e7 (Or.inr (by decide)), e_o e6 (Or.inr (by decide))]; exact a05
    have kk : ∀ a, ¬ a = Y → ∀ j, xi h9 a j = xi h3 a j := fun a ha j => v39.i (fun q => ha q)
    refine xo_g y9.1 (xo_n y9.r13 (xo_g y9.1 (xo_n y9.r1 (xo_b (copies_o (n := 6) ⟨y9.k13, y9.n13⟩ ⟨y9.k1, y9.n1⟩ (by omega) (by omega)) (fun _ ha qa => ?_)))))
    obtain ⟨ia, da⟩ := qa
    have ya := y9.iw ia
    refine xo_g ya.1 (xo_n ya.r14 (xo_g ya.1 (xo_n ya.r2 (xo_b (copies_o (n := 384) ⟨ya.k14, ya.n14⟩ ⟨ya.k2, ya.n2⟩ (by omega) (by omega)) (fun _ hb qb => ?_)))))
    obtain ⟨ib, db⟩ := qb
    have yb := ya.iw ib
    refine xo_g yb.1 (xo_n yb.r15 (xo_g yb.1 (xo_n yb.r3 (xo_b (copies_o (n := 6) ⟨yb.k15, yb.n15⟩ ⟨yb.k3, yb.n3⟩ (by omega) (by omega)) (fun _ hc qc => ?_)))))
    obtain ⟨ic, dc⟩ := qc
    have yc := yb.iw ic
    refine xo_g yc.1 (xo_n yc.r16 (xo_g yc.1 (xo_n yc.r4 (xo_b (copies_o (n := 6) ⟨yc.k16, yc.n16⟩ ⟨yc.k4, yc.n4⟩ (by omega) (by omega)) (fun _ hd qd => ?_)))))
    obtain ⟨id', dd⟩ := qd
    have yd := yc.iw id'
    refine xo_g yd.1 (xo_n yd.r17 (xo_g yd.1 (xo_n yd.r5 (xo_b (copies_o (n := 8) ⟨yd.k17, yd.n17⟩ ⟨yd.k5, yd.n5⟩ (by omega) (by omega)) (fun _ he qe => ?_)))))
    obtain ⟨ie, de⟩ := qe
    have ye := yd.iw ie
    refine xo_g ye.1 (xo_n ye.r18 (xo_g ye.1 (xo_n ye.r6 (xo_b (copies_o (n := 8) ⟨ye.k18, ye.n18⟩ ⟨ye.k6, ye.n6⟩ (by omega) (by omega)) (fun _ hf qf => ?_)))))
    obtain ⟨if', df⟩ := qf
    have yf' := ye.iw if'
    refine xo_g yf'.1 (xo_n yf'.r19 (xo_g yf'.1 (xo_n yf'.r7 (xo_b (copies_o (n := 200) ⟨yf'.k19, yf'.n19⟩ ⟨yf'.k7, yf'.n7⟩ (by omega) (by omega)) (fun _ hg qg => ?_)))))
    obtain ⟨ig, dg⟩ := qg
    have yg := yf'.iw ig
    refine xo_g yg.1 (xo_n yg.r12 (xo_g yg.1 (xo_n yg.r8 (xo_b (copies_o (n := 563) ⟨yg.k12, yg.n12⟩ ⟨yg.k8, yg.n8⟩ (by omega) (by omega)) (fun _ hh qh => ?_)))))
    obtain ⟨ih, dh⟩ := qh
    have yh := yg.iw ih
    refine xo_g yh.1 (xo_wi (fun hi ei => ?_))
    have yi' : YL hi Y := YL_fw yh (A := fun a j => a = Y) (fw_i ei rfl)
    refine xo_g yi'.1 (xo_n yi'.r10 (xo_g (yi'.g10 (show 0 < 2 by omega)) ?_))
    rw [show vp_nar .boolean 0 = 0 from rfl]
    refine xo_wz (n := 0) (by omega) (fun hj ej => ?_)
    have yj' : YL hj Y := YL_fw yi' (A := fun a j => a = Y + 10) (fw_i ej rfl)
    refine xo_g yj'.1 (xo_n yj'.r10 (xo_g (yj'.g10 (show 1 < 2 by omega)) ?_))
    refine xo_wz (n := 1) (by omega) (fun hk ek => ?_)
    have yk' : YL hk Y := YL_fw yj' (A := fun a j => a = Y + 10) (fw_i ek rfl)
    have last : ∀ a j, (¬ a = Y ∨ ¬ j = 14) → ¬ a = Y + 10 → xi hk a j = xi hh a j := fun a j q1 q2 => by rw [e_o ek (Or.inl q2), e_o ej (Or.inl q2), e_o ei q1]
    have st : ∀ a, (a < Y + 1 ∨ Y + 8 < a) → ∀ j, xi hh a j = xi h9 a j := fun a q j => by
      rw [ih.i _ (by omega), ig.i _ (by omega), if'.i _ (by omega), ie.i _ (by omega), id'.i _ (by omega), ic.i _ (by omega), ib.i _ (by omega), ia.i _ (by omega)]
    have iAll : iw (rYa Y) h hk := by
      have j1 : iw (rYa Y) h h9 := i9.wide (fun a q => by unfold rYa; omega)
      have j2 := j1.trans ia (D := rYa Y) (fun _ q => q) (fun a q => by unfold rYa; omega)
      have j3 := j2.trans ib (D := rYa Y) (fun _ q => q) (fun a q => by unfold rYa; omega)
      have j4 := j3.trans ic (D := rYa Y) (fun _ q => q) (fun a q => by unfold rYa; omega)
      have j5 := j4.trans id' (D := rYa Y) (fun _ q => q) (fun a q => by unfold rYa; omega)
      have j6 := j5.trans ie (D := rYa Y) (fun _ q => q) (fun a q => by unfold rYa; omega)
      have j7 := j6.trans if' (D := rYa Y) (fun _ q => q) (fun a q => by unfold rYa; omega)
      have j8 := j7.trans ig (D := rYa Y) (fun _ q => q) (fun a q => by unfold rYa; omega)
      have j9 := j8.trans ih (D := rYa Y) (fun _ q => q) (fun a q => by unfold rYa; omega)
      rw [ek, ej, ei]
      exact ((j9.yi _ _ _ (by unfold rYa; omega)).yi _ _ _ (by unfold rYa; omega)).yi _ _ _ (by unfold rYa; omega)
    have fk : ∀ k, ¬ k = 14 → xi hk Y k = xi h9 Y k := fun k q => (last Y k (Or.inr q) (by omega)).trans (st Y (Or.inl (by omega)) k)
    refine xo_g yk'.1 ?_
    rw [(fk 3 (by decide)).trans g9.2.2.1]
    refine xo_v ⟨iAll, rfl, (fk 0 (by decide)).trans g9.2.2.2.2.2.2.2.2, YI_ld (h1 := h3) y q3 wa.2.1 wa.2.2.1 yk' ⟨fun k hk' => ?_, fun k hk' => ?_, fun k hk' => ?_, fun k hk' => ?_, fun k hk' => ?_, fun k hk' => ?_, fun k hk' => ?_, fun k hk' => ?_⟩ ⟨(fk 1 (by decide)).trans g9.1, (fk 2 (by decide)).trans g9.2.1, (fk 3 (by decide)).trans g9.2.2.1, (fk 4 (by decide)).trans g9.2.2.2.1, ?_, (fk 17 (by decide)).trans g9.2.2.2.2.1, (fk 18 (by decide)).trans g9.2.2.2.2.2.1, (fk 19 (by decide)).trans g9.2.2.2.2.2.2.1, (fk 43 (by decide)).trans g9.2.2.2.2.2.2.2.1⟩ (fun i hi' => ?_) (fun j => ?_)⟩
    · rw [last _ _ (Or.inl (by omega)) (by omega), ih.i _ (by omega), ig.i _ (by omega), if'.i _ (by omega), ie.i _ (by omega), id'.i _ (by omega), ic.i _ (by omega), ib.i _ (by omega), da k hk']
      exact kk _ (by omega) _
    · rw [last _ _ (Or.inl (by omega)) (by omega), ih.i _ (by omega), ig.i _ (by omega), if'.i _ (by omega), ie.i _ (by omega), id'.i _ (by omega), ic.i _ (by omega), db k hk', ia.i _ (by omega)]
      exact kk _ (by omega) _
    · rw [last _ _ (Or.inl (by omega)) (by omega), ih.i _ (by omega), ig.i _ (by omega), if'.i _ (by omega), ie.i _ (by omega), id'.i _ (by omega), dc k hk', ib.i _ (by omega), ia.i _ (by omega)]
      exact kk _ (by omega) _
    · rw [last _ _ (Or.inl (by omega)) (by omega), ih.i _ (by omega), ig.i _ (by omega), if'.i _ (by omega), ie.i _ (by omega), dd k hk', ic.i _ (by omega), ib.i _ (by omega), ia.i _ (by omega)]
      exact kk _ (by omega) _
    · rw [last _ _ (Or.inl (by omega)) (by omega), ih.i _ (by omega), ig.i _ (by omega), if'.i _ (by omega), de k hk', id'.i _ (by omega), ic.i _ (by omega), ib.i _ (by omega), ia.i _ (by omega)]
      exact kk _ (by omega) _
    · rw [last _ _ (Or.inl (by omega)) (by omega), ih.i _ (by omega), ig.i _ (by omega), df k hk', ie.i _ (by omega), id'.i _ (by omega), ic.i _ (by omega), ib.i _ (by omega), ia.i _ (by omega)]
      exact kk _ (by omega) _
    · rw [last _ _ (Or.inl (by omega)) (by omega), ih.i _ (by omega), dg k hk', if'.i _ (by omega), ie.i _ (by omega), id'.i _ (by omega), ic.i _ (by omega), ib.i _ (by omega), ia.i _ (by omega)]
      exact kk _ (by omega) _
    · rw [last _ _ (Or.inl (by omega)) (by omega), dh k hk', ig.i _ (by omega), if'.i _ (by omega), ie.i _ (by omega), id'.i _ (by omega), ic.i _ (by omega), ib.i _ (by omega), ia.i _ (by omega)]
      exact kk _ (by omega) _
    · rw [e_o ek (Or.inl (by omega)), e_o ej (Or.inl (by omega))]; exact e_s ei
    · have hi2 : i = 0 ∨ i = 1 := by omega
      rcases hi2 with rfl | rfl
      · rw [e_o ek (Or.inr (by decide))]; exact e_s ej
      · exact e_s ek
    · rw [last _ _ (Or.inl (by omega)) (by omega), st _ (Or.inr (by omega)), i9.i _ (by omega)]
end LDR
