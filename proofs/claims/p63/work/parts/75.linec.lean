/-! The class reads lines. -/
set_option linter.unusedVariables false
theorem xo_jp {α : Type} {k : Int32 → XH → XP α} {f : (Int32 → XH → XP α) → XP α} {Q : α → XH → Prop} (KP : Int32 → XH → Prop) (ht : ∀ v h, KP v h → xo (k v h) Q) (hm : ∀ j, (∀ v h, KP v h → xo (j v h) Q) → xo (f j) Q) : xo (xjn k f) Q := hm k ht
theorem xo_jh {α : Type} {k : XH → XP α} {f : (XH → XP α) → XP α} {Q : α → XH → Prop} (KP : XH → Prop) (ht : ∀ h, KP h → xo (k h) Q) (hm : ∀ j, (∀ h, KP h → xo (j h) Q) → xo (f j) Q) : xo (xjn k f) Q := hm k ht
/-- all that stands while a line is read -/
def SH (h : XH) (X W K P : Nat) (B : BF) (S : SD) (T : ST) (D : Nat → Int32) (t : TK) : Prop := CL h X W K P B ∧ CD h W S T D ∧ KT h K B t
/-- a line's end -/
def LPq (h : XH) (W K P : Nat) (B : BF) (e : ER) (A' : PA) (v : Int32) (h' : XH) : Prop := fW (rdA W K P) (rdR W) h h' ∧ cr P e v h h' (KT h' K B (paK A') ∧ CD h' W (paZ A') (paT A') (paD A'))
/-- a group g in the class's rows at A -/
def SG (h : XH) (A : Nat) (g : GR) : Prop := xi h A 3 = nI g.1 ∧ ∀ a b, a < g.1 → b < g.1 → xi h (A + 1) (8 * a + b) = nI (g.2.1 a b)
section LINE
variable {E : XG} {h h' h1 h2 : XH} {X W K P : Nat} {B : BF} {t : TK} {S : SD} {T : ST} {D : Nat → Int32}
/-- the same without the names -/
def bK (W K P : Nat) (S : SD) : Nat → Nat → Prop := fun a j => (a = K ∧ 2 ≤ j) ∨ (a = P ∧ 2 ≤ j) ∨ (sng S < 6 ∧ ((a = W + 14 + 3 * sng S ∧ j = 3) ∨ a = W + 14 + 3 * sng S + 1)) ∨ (snm S < 6 ∧ ((a = W + 32 + 8 * snm S ∧ j = 6) ∨ a = W + 32 + 8 * snm S + 1 ∨ a = W + 32 + 8 * snm S + 2)) ∨ (sna S < 8 ∧ (a = W + 80 + 3 * sna S + 1 ∨ a = W + 80 + 3 * sna S + 2))
theorem fw_ka (w : fW (bK W K P S) (bR W S) h h') : fW (bA W K P S) (bR W S) h h' := w.wide (fun a j q => by
  rcases q with q | q | q
  · exact Or.inl q
  · exact Or.inr (Or.inl q)
  · exact Or.inr (Or.inr (Or.inr q))) (fun a j q => q)
theorem fw_tk (w : fW (tA K) noR h h') : fW (bK W K P S) (bR W S) h h' := w.wide (fun a j q => Or.inl q) (fun a j q => q.elim)
theorem fw_pk (w : fW (pA P) noR h h') : fW (bK W K P S) (bR W S) h h' := w.wide (fun a j q => Or.inr (Or.inl q)) (fun a j q => q.elim)
/-- a name noted -/
def NQ (h : XH) (W : Nat) (S : SD) (s : Nat) (w : List Nat) : Prop := xj h (W + 2 + 3 * s) (scn S s) = Int64.ofNat (pkN w) ∧ xi h (W + 3 + 3 * s) (scn S s) = nI w.length
theorem NQ_k {s : Nat} {w : List Nat} (n : NQ h W S s w) (hs : s < 3) (g : CGe X W K P) (v : fW (bK W K P S) (bR W S) h h') : NQ h' W S s w := by
  obtain ⟨⟨g1, g2, g3⟩, g4⟩ := g
  exact ⟨(v.j (fun q => by unfold bK at q; omega)).trans n.1, (v.i (fun q => by unfold bK at q; omega)).trans n.2⟩
theorem fw_rd (w : fW (bA W K P S) (bR W S) h h') : fW (rdA W K P) (rdR W) h h' := w.wide (fun a j q => bA_rd q) (fun a j q => bR_rd q)
theorem SH.fb (H : SH h X W K P B S T D t) (w : fW (bK W K P S) (bR W S) h h') (ws : WS S) (k : KT h' K B t) : SH h' X W K P B S T D t := ⟨H.1.fb (fw_ka w), H.2.1.fb (fw_ka w) ws H.1.1, k⟩
theorem adv_s (H : SH h X W K P B S T D t) (ws : WS S) (wk : WK B t) : xo (FX6_advance E K h) (fun _ h' => fW (bK W K P S) (bR W S) h h' ∧ (SH h' X W K P B S T D (nx B t) ∧ fW (tA K) noR h h')) := xo_w (adv_o H.1.kl wk H.2.2) (fun _ h' q => ⟨fw_tk q.1, ⟨H.1.fb (S := S) (fw_tb q.1), H.2.1.fb (fw_tb q.1) ws H.1.1, q.2⟩, q.1⟩)
theorem known_s (H : SH h X W K P B S T D t) (ws : WS S) (nm : WNm S) (wk : WK B t) {s : Nat} (hs : s < 3) : xo (FX5_isKnown E P (W + 1 + 3 * s) h) (fun v h' => fW (bK W K P S) (bR W S) h h' ∧ SH h' X W K P B S T D t ∧ cr P (eKn B S s t) v h h' True) := xo_w (isKnown_o H.1 H.2.1 ws nm H.2.2 wk hs) (fun v h' q => ⟨fw_pk q.1, H.fb (fw_pk q.1) ws (KT_p H.2.2 q.1 H.1), q.2⟩)
theorem number_s (H : SH h X W K P B S T D t) (ws : WS S) (wk : WK B t) {lo hi : Nat} (h1 : lo < 100) (h2 : hi < 100) : xo (FX5_isNumber E P (nI lo) (nI hi) h) (fun v h' => fW (bK W K P S) (bR W S) h h' ∧ SH h' X W K P B S T D t ∧ cr P (eNu B lo hi t) v h h' True) := xo_w (isNumber_o H.1 H.2.2 wk h1 h2) (fun v h' q => ⟨fw_pk q.1, H.fb (fw_pk q.1) ws (KT_p H.2.2 q.1 H.1), q.2⟩)
theorem refuse_s (H : SH h X W K P B S T D t) (c : Nat) : xo (FX5_refuse E P (nI c) h) (fun v h' => v = 0 ∧ fW (bK W K P S) (bR W S) h h' ∧ xi h' P 2 = nI c ∧ xi h' P 3 = nI (tkA t)) := xo_w (refuse_o H.1 H.2.2 c) (fun v h' q => ⟨q.1, fw_pk q.2.1, q.2.2⟩)
theorem fw_gb (h6 : sng S < 6) (w : fW (gA (W + 14 + 3 * sng S)) noR h h') : fW (bK W K P S) (bR W S) h h' := w.wide (fun a j q => Or.inr (Or.inr (Or.inl ⟨h6, q⟩))) (fun a j q => q.elim)
theorem SG_t {A : Nat} {g : GR} (q : SG h A g) (w : fW (tA K) noR h h') (n1 : A + 1 < K) : SG h' A g := ⟨(w.i (fun z => by have := z.1; omega)).trans q.1, fun a b ha hb => (w.i (fun z => by have := z.1; omega)).trans (q.2 a b ha hb)⟩
theorem SH.ggl (H : SH h X W K P B S T D t) {g : Nat} (hg : g < 6) : GL h (W + 14 + 3 * g) := (H.1.wl.2.2.1 g hg).2
theorem SH.lt (H : SH h X W K P B S T D t) : W + 104 < K := by
  obtain ⟨⟨g1, g2, g3⟩, g4⟩ := H.1.1
  omega
/-- the kinds -/
theorem readCyclic_o (H : SH h X W K P B S T D t) (ws : WS S) (wk : WK B t) (h6 : sng S < 6) : xo (FX5_readCyclic E P (W + 14 + 3 * sng S) h) (fun v h' => fW (bK W K P S) (bR W S) h h' ∧ cr P (eNu B 1 8 (nx B t)) v h h' (SH h' X W K P B S T D (nx B (nx B t)) ∧ SG h' (W + 14 + 3 * sng S) (gCyc (vlT B (nx B t))))) := by
  have lt := H.lt
  unfold FX5_readCyclic
  refine xo_g H.1.pk (xo_n H.1.pt (xo_g H.1.kk (xo_b (adv_s H ws wk) (fun _ h1 q1 => ?_))))
  obtain ⟨w1, H1, u1⟩ := q1
  have nKP := H.1.1.1.2.2
  refine xo_g H1.1.pk (xo_b (number_s (lo := 1) (hi := 8) H1 ws (nx_wk wk) (by omega) (by omega)) (fun v h2 q2 => ?_))
  obtain ⟨w2, H2, c2⟩ := q2
  cases hE : eNu B 1 8 (nx B t) with
  | some er =>
    rw [hE] at c2
    exact xo_t c2.1 (xo_g (Or.inl rfl) (xo_v ⟨w1.trans w2, rfl, c2.2⟩))
  | none =>
    rw [hE] at c2
    obtain ⟨n1, n2, n3⟩ := eNu_0 hE
    refine xo_f (by rw [c2.1]; decide) (xo_g H2.1.pk (xo_n H2.1.pt (xo_g H2.1.kk (xo_g (H2.ggl h6).1 ?_))))
    rw [H2.2.2.2.2 n1]
    refine xo_b (cyc_o (H2.ggl h6) (by omega) n3) (fun _ h3 q3 => ?_)
    obtain ⟨w3, g3⟩ := q3
    have H3 : SH h3 X W K P B S T D (nx B t) := H2.fb (fw_gb h6 w3) ws (H2.2.2.fw w3 (fun j q => by unfold gA at q; omega))
    refine xo_g H3.1.pk (xo_n H3.1.pt (xo_g H3.1.kk (xo_b (adv_s H3 ws (nx_wk wk)) (fun _ h4 q4 => ?_))))
    obtain ⟨w4, H4, u4⟩ := q4
    exact xo_g (Or.inr rfl) (xo_v ⟨((w1.trans w2).trans (fw_gb h6 w3)).trans w4, rfl, smP_t (smP_t (smP_t (smP_k u1 nKP) c2.2.1) (smP_fw w3 (fun q => by have g := H.1.1; unfold CGe at g; unfold gA at q; omega) (fun q => by have g := H.1.1; unfold CGe at g; unfold gA at q; omega))) (smP_k u4 nKP), H4, SG_t g3 u4 (by omega)⟩)
theorem readDihedral_o (H : SH h X W K P B S T D t) (ws : WS S) (wk : WK B t) (h6 : sng S < 6) : xo (FX5_readDihedral E P (W + 14 + 3 * sng S) h) (fun v h' => fW (bK W K P S) (bR W S) h h' ∧ cr P (eNu B 3 4 (nx B t)) v h h' (SH h' X W K P B S T D (nx B (nx B t)) ∧ SG h' (W + 14 + 3 * sng S) (gDih (vlT B (nx B t))))) := by
  have lt := H.lt
  unfold FX5_readDihedral
  refine xo_g H.1.pk (xo_n H.1.pt (xo_g H.1.kk (xo_b (adv_s H ws wk) (fun _ h1 q1 => ?_))))
  obtain ⟨w1, H1, u1⟩ := q1
  have nKP := H.1.1.1.2.2
  refine xo_g H1.1.pk (xo_b (number_s (lo := 3) (hi := 4) H1 ws (nx_wk wk) (by omega) (by omega)) (fun v h2 q2 => ?_))
  obtain ⟨w2, H2, c2⟩ := q2
  cases hE : eNu B 3 4 (nx B t) with
  | some er =>
    rw [hE] at c2
    exact xo_t c2.1 (xo_g (Or.inl rfl) (xo_v ⟨w1.trans w2, rfl, c2.2⟩))
  | none =>
    rw [hE] at c2
    obtain ⟨n1, n2, n3⟩ := eNu_0 hE
    refine xo_f (by rw [c2.1]; decide) (xo_g H2.1.pk (xo_n H2.1.pt (xo_g H2.1.kk (xo_g (H2.ggl h6).1 ?_))))
    rw [H2.2.2.2.2 n1]
    refine xo_b (dih_o (H2.ggl h6) n2 n3) (fun _ h3 q3 => ?_)
    obtain ⟨w3, g3⟩ := q3
    have H3 : SH h3 X W K P B S T D (nx B t) := H2.fb (fw_gb h6 w3) ws (H2.2.2.fw w3 (fun j q => by unfold gA at q; omega))
    refine xo_g H3.1.pk (xo_n H3.1.pt (xo_g H3.1.kk (xo_b (adv_s H3 ws (nx_wk wk)) (fun _ h4 q4 => ?_))))
    obtain ⟨w4, H4, u4⟩ := q4
    exact xo_g (Or.inr rfl) (xo_v ⟨((w1.trans w2).trans (fw_gb h6 w3)).trans w4, rfl, smP_t (smP_t (smP_t (smP_k u1 nKP) c2.2.1) (smP_fw w3 (fun q => by have g := H.1.1; unfold CGe at g; unfold gA at q; omega) (fun q => by have g := H.1.1; unfold CGe at g; unfold gA at q; omega))) (smP_k u4 nKP), H4, SG_t g3 u4 (by omega)⟩)
theorem readQuaternion_o (H : SH h X W K P B S T D t) (ws : WS S) (wk : WK B t) (h6 : sng S < 6) : xo (FX5_readQuaternion E P (W + 14 + 3 * sng S) h) (fun v h' => fW (bK W K P S) (bR W S) h h' ∧ cr P none v h h' (SH h' X W K P B S T D (nx B t) ∧ SG h' (W + 14 + 3 * sng S) gQua)) := by
  have lt := H.lt
  unfold FX5_readQuaternion
  refine xo_g H.1.pk (xo_n H.1.pt (xo_g H.1.kk (xo_b (adv_s H ws wk) (fun _ h1 q1 => ?_))))
  obtain ⟨w1, H1, u1⟩ := q1
  have nKP := H.1.1.1.2.2
  refine xo_g (H1.ggl h6).1 (xo_b (qua_o (H1.ggl h6)) (fun _ h3 q3 => ?_))
  obtain ⟨w3, g3⟩ := q3
  have H3 : SH h3 X W K P B S T D (nx B t) := H1.fb (fw_gb h6 w3) ws (H1.2.2.fw w3 (fun j q => by unfold gA at q; omega))
  exact xo_g (Or.inr rfl) (xo_v ⟨w1.trans (fw_gb h6 w3), rfl, smP_t (smP_k u1 nKP) (smP_fw w3 (fun q => by have g := H.1.1; unfold CGe at g; unfold gA at q; omega) (fun q => by have g := H.1.1; unfold CGe at g; unfold gA at q; omega)), H3, g3⟩)
theorem readProduct_o (H : SH h X W K P B S T D t) (ws : WS S) (nm : WNm S) (wk : WK B t) (h6 : sng S < 6) : xo (FX5_readProduct E P (W + 14 + 3 * sng S) h) (fun v h' => fW (bK W K P S) (bR W S) h h' ∧ cr P (eo (eKn B S 0 (nx B t)) (eo (eKn B S 0 (nx B (nx B t))) (ck (decide (8 < sgn S (nmI S 0 (wdT B (nx B t))) * sgn S (nmI S 0 (wdT B (nx B (nx B t)))))) 4 (nx B (nx B t))))) v h h' (SH h' X W K P B S T D (nx B (nx B (nx B t))) ∧ SG h' (W + 14 + 3 * sng S) (gPro S (nmI S 0 (wdT B (nx B t))) (nmI S 0 (wdT B (nx B (nx B t))))))) := by
  have lt := H.lt
  have wk1 := nx_wk wk
  have wk2 := nx_wk wk1
  unfold FX5_readProduct
  refine xo_g H.1.pk (xo_n H.1.pt (xo_g H.1.kk (xo_b (adv_s H ws wk) (fun _ h1 q1 => ?_))))
  obtain ⟨w1, H1, u1⟩ := q1
  have nKP := H.1.1.1.2.2
  refine xo_g H1.1.pk (xo_n H1.1.pw (xo_g H1.1.wk (xo_n H1.1.wl.rn (xo_g H1.1.pk (xo_b (known_s H1 ws nm wk1 (show 0 < 3 by omega)) (fun v h2 q2 => ?_))))))
  obtain ⟨w2, H2, c2⟩ := q2
  cases hE : eKn B S 0 (nx B t) with
  | some er =>
    rw [hE] at c2
    exact xo_t c2.1 (xo_g (Or.inl rfl) (xo_v ⟨w1.trans w2, rfl, c2.2⟩))
  | none =>
    rw [hE] at c2
    refine xo_f (by rw [c2.1]; decide) (xo_g H2.1.pk (xo_eb (groupTold_v H2.1 H2.2.1 ws nm H2.2.2 wk1 hE) (xo_g H2.1.pk (xo_n H2.1.pt (xo_g H2.1.kk (xo_b (adv_s H2 ws wk1) (fun _ h3 q3 => ?_)))))))
    obtain ⟨w3, H3, u3⟩ := q3
    have a0 : nmI S 0 (wdT B (nx B t)) < sng S := (eKn_0 hE).2
    refine xo_g H3.1.pk (xo_n H3.1.pw (xo_g H3.1.wk (xo_n H3.1.wl.rn (xo_g H3.1.pk (xo_b (known_s H3 ws nm wk2 (show 0 < 3 by omega)) (fun v h4 q4 => ?_))))))
    obtain ⟨w4, H4, c4⟩ := q4
    have w14 := ((w1.trans w2).trans w3).trans w4
    cases hF : eKn B S 0 (nx B (nx B t)) with
    | some er =>
      rw [hF] at c4
      exact xo_t c4.1 (xo_g (Or.inl rfl) (xo_v ⟨w14, rfl, c4.2⟩))
    | none =>
      rw [hF] at c4
      have b0 : nmI S 0 (wdT B (nx B (nx B t))) < sng S := (eKn_0 hF).2
      refine xo_f (by rw [c4.1]; decide) (xo_g H4.1.pk (xo_eb (groupTold_v H4.1 H4.2.1 ws nm H4.2.2 wk2 hF) ?_))
      rw [eo_n, eo_n]
      generalize nmI S 0 (wdT B (nx B t)) = a at *
      generalize nmI S 0 (wdT B (nx B (nx B t))) = b at *
      have ga := ws.2.1 a a0
      have gb := ws.2.1 b b0
      have hm : sgn S a * sgn S b ≤ 64 := Nat.le_trans (Nat.mul_le_mul ga.1.2 gb.1.2) (by decide)
      refine xo_g (H4.ggl (by omega)).1 (xo_g (H4.ggl (by omega)).1 ?_)
      rw [(H4.2.1.2.1 a a0).1, (H4.2.1.2.1 b b0).1, nI_m]
      by_cases c8 : sgn S a * sgn S b ≤ 8
      · have e : ck (decide (8 < sgn S a * sgn S b)) 4 (nx B (nx B t)) = none := by
          unfold ck
          rw [if_neg (by simpa using c8)]
        rw [e]
        refine xo_t (by rw [li8, nI_leP (by omega) (by omega)]; exact c8) (xo_g H4.1.pk (xo_n H4.1.pt (xo_g H4.1.kk (xo_b (adv_s H4 ws wk2) (fun _ h5 q5 => ?_)))))
        obtain ⟨w5, H5, u5⟩ := q5
        refine xo_g (H5.ggl h6).1 (xo_b (pro_o (H5.ggl h6) (H5.ggl (by omega)) (H5.ggl (by omega)) ga gb (H5.2.1.2.1 a a0) (H5.2.1.2.1 b b0) c8 (by omega) (by omega)) (fun _ h6' q6 => ?_))
        obtain ⟨w6, g6⟩ := q6
        have H6 : SH h6' X W K P B S T D (nx B (nx B (nx B t))) := H5.fb (fw_gb h6 w6) ws (H5.2.2.fw w6 (fun j q => by unfold gA at q; omega))
        exact xo_g (Or.inr rfl) (xo_v ⟨(w14.trans w5).trans (fw_gb h6 w6), rfl, smP_t (smP_t (smP_t (smP_t (smP_t (smP_k u1 nKP) c2.2.1) (smP_k u3 nKP)) c4.2.1) (smP_k u5 nKP)) (smP_fw w6 (fun q => by have g := H.1.1; unfold CGe at g; unfold gA at q; omega) (fun q => by have g := H.1.1; unfold CGe at g; unfold gA at q; omega)), H6, g6⟩)
      · have e : ck (decide (8 < sgn S a * sgn S b)) 4 (nx B (nx B t)) = some (4, tkA (nx B (nx B t))) := by
          unfold ck
          rw [if_pos (by simp; omega)]
        rw [e]
        refine xo_f (by rw [li8, nI_leP (by omega) (by omega)]; exact c8) (xo_g H4.1.pk (xo_b (refuse_s H4 4) (fun v h5 q => xo_g (Or.inl q.1) (xo_v ⟨w14.trans q.2.1, q.1, q.2.2⟩))))
/-- a group more -/
theorem CD_g {w : List Nat} {g : GR} (c : CD h1 W S T D) (ws : WS S) (e : h2 = yi h1 (W + 1) 2 (nI (sng S + 1))) (n : xj h1 (W + 2) (sng S) = Int64.ofNat (pkN w) ∧ xi h1 (W + 3) (sng S) = nI w.length) (q : SG h1 (W + 14 + 3 * sng S) g) : CD h2 W (sAg (sNm S 0 w) g) T D := by
  obtain ⟨c1, c2, c3, c4, c5, c6⟩ := c
  obtain ⟨⟨w1, w2, w3⟩, w4, w5, w6⟩ := ws
  have o : ∀ k, ¬ k = sng S → (sAg (sNm S 0 w) g).2.1 k = S.2.1 k := fun k hk => if_neg hk
  have os : ∀ k, k < sng S → sgn (sAg (sNm S 0 w) g) k = sgn S k := fun k hk => congrArg (·.1) (o k (by omega))
  have nw : (sAg (sNm S 0 w) g).2.1 (sng S) = g := if_pos rfl
  have ou : ∀ m, m < snm S → nuS (sAg (sNm S 0 w) g) m = nuS S m := fun m hm => os _ (w5 m hm).1
  have ol : ∀ m, m < snm S → nlS2 (sAg (sNm S 0 w) g) m = nlS2 S m := fun m hm => os _ (w5 m hm).2
  have ne : ∀ a j, (¬ a = W + 1 ∨ ¬ j = 2) → xi h2 a j = xi h1 a j := fun a j z => e_o e z
  have nr : ∀ a j, xr h2 a j = xr h1 a j := fun a j => by rw [e]; rfl
  have nj : ∀ a j, xj h2 a j = xj h1 a j := fun a j => by rw [e]; rfl
  refine ⟨fun s hs => ?_, fun k hk => ?_, fun m hm => ⟨⟨(nr _ _).trans (c3 m hm).1.1, (nr _ _).trans (c3 m hm).1.2⟩, (ne _ _ (Or.inl (by omega))).trans (c3 m hm).2.1, fun a ha => ?_, fun g' a hg ha => ?_⟩, fun a ha => ⟨⟨(nr _ _).trans (c4 a ha).1.1, (nr _ _).trans (c4 a ha).1.2⟩, fun x hx => ?_, fun x hx => ?_⟩, fun x hx => (ne _ _ (Or.inl (by omega))).trans (c5 x hx), fun s k hs hk => ?_⟩
  · rw [scn_ag s hs]
    by_cases z : s = 0
    · rw [z, if_pos rfl]; exact e_s e
    · rw [if_neg z, ne _ _ (Or.inl (by omega))]; exact c1 s hs
  · have hk : k < sng S + 1 := hk
    unfold sgn sgt
    by_cases z : k = sng S
    · subst z
      rw [nw]
      exact ⟨(ne _ _ (Or.inl (by omega))).trans q.1, fun a b ha hb => (ne _ _ (Or.inl (by omega))).trans (q.2 a b ha hb)⟩
    · rw [o k z]
      have := c2 k (by omega)
      exact ⟨(ne _ _ (Or.inl (by omega))).trans this.1, fun a b ha hb => (ne _ _ (Or.inl (by omega))).trans (this.2 a b ha hb)⟩
  · rw [ou m hm] at ha
    exact (ne _ _ (Or.inl (by omega))).trans ((c3 m hm).2.2.1 a ha)
  · rw [ou m hm] at ha
    rw [ol m hm] at hg
    exact (ne _ _ (Or.inl (by omega))).trans ((c3 m hm).2.2.2 g' a hg ha)
  · have hx : x < nuS (sAg (sNm S 0 w) g) (saf S a) := hx
    rw [ou _ (w6 a ha).1] at hx
    exact (ne _ _ (Or.inl (by omega))).trans ((c4 a ha).2.1 x hx)
  · have hx : x < nlS2 (sAg (sNm S 0 w) g) (saf S a) := hx
    rw [ol _ (w6 a ha).1] at hx
    exact (ne _ _ (Or.inl (by omega))).trans ((c4 a ha).2.2 x hx)
  · rw [scn_ag s hs] at hk
    show xj h2 _ k = Int64.ofNat (pkN (if s = 0 ∧ k = scn S 0 then w else snn S s k)) ∧ xi h2 _ k = nI (if s = 0 ∧ k = scn S 0 then w else snn S s k).length
    by_cases z : s = 0 ∧ k = scn S 0
    · rw [if_pos z, nj, ne _ _ (Or.inl (by omega)), z.1, z.2]
      exact n
    · rw [if_neg z, nj, ne _ _ (Or.inl (by omega))]
      refine c6 s k hs ?_
      by_cases y : s = 0
      · rw [if_pos y] at hk
        subst y
        have : ¬ k = scn S 0 := fun x => z ⟨rfl, x⟩
        omega
      · rw [if_neg y] at hk; exact hk
theorem readGroup_o (H : SH h X W K P B S T D t) (ws : WS S) (nm : WNm S) (wk : WK B t) : xo (FX5_readGroup E P h) (fun v h' => LPq h W K P B (eGl B S t) (nGl B S T D t) v h') := by
  have lt := H.lt
  have g := H.1.1
  obtain ⟨⟨g1, g2, g3⟩, g4⟩ := H.1.1
  have wk2 := nx_wk (nx_wk wk)
  unfold FX5_readGroup
  refine xo_g H.1.pk (xo_n H.1.pw (xo_g H.1.wk (xo_n H.1.wl.rn (xo_g H.1.pk (xo_b (readNewName_o H.1 H.2.1 ws nm H.2.2 wk (show 0 < 3 by omega)) (fun v h1 q1 => ?_))))))
  obtain ⟨w1, c1⟩ := q1
  have eG : eGl B S t = eo (eo (ck (decide (scn S 0 = mxS 0)) 4 t) (eNm B S 0 (nx B t))) (eGk B S (nx B (nx B t))) := (eo_as _ _ _).symm
  rw [eG]
  cases hE : eo (ck (decide (scn S 0 = mxS 0)) 4 t) (eNm B S 0 (nx B t)) with
  | some er =>
    rw [hE] at c1
    exact xo_t c1.1 (xo_g (Or.inl rfl) (xo_v ⟨fw_rd w1, rfl, c1.2⟩))
  | none =>
    rw [hE] at c1
    obtain ⟨c1, sm1, h6, k1, n1⟩ := c1
    have h6 : sng S < 6 := h6
    rw [eo_n]
    have H1 : SH h1 X W K P B S T D (nx B (nx B t)) := ⟨H.1.fb w1, H.2.1.fb w1 ws H.1.1, k1⟩
    have w0 := H1.1.wl
    have cn : xi h1 (W + 1) 2 = nI (sng S) := H1.2.1.1 0 (by omega)
    refine xo_f (by rw [c1]; decide) (xo_g H1.1.pk (xo_n H1.1.pw (xo_g H1.1.wk (xo_n w0.r10 (xo_g w0.kn ?_)))))
    rw [cn]
    refine xo_g ⟨w0.k10, by rw [w0.n10]; exact xin_nI h6 (by omega)⟩ (xo_n (w0.g h6) (xo_g H1.1.pk (xo_n H1.1.pt (xo_g H1.1.kk (xo_eb (spells_v H1.1.kl wk2 H1.2.2 (by omega) (by omega)) ?_)))))
    refine xo_jp (fun v h2 => fW (bK W K P S) (bR W S) h1 h2 ∧ cr P (eGk B S (nx B (nx B t))) v h1 h2 (SH h2 X W K P B S T D (tGk B (nx B (nx B t))) ∧ SG h2 (W + 14 + 3 * sng S) (gGk B S (nx B (nx B t))))) (fun v h2 q => ?_) (fun j jh => ?_)
    · obtain ⟨w2, q⟩ := q
      have w2a := fw_ka w2
      have l2 := (H.1.fb w1).fb w2a
      have d2 := (H.2.1.fb w1 ws g).fb w2a ws g
      have cn2 : xi h2 (W + 1) 2 = nI (sng S) := d2.1 0 (by omega)
      refine xo_g l2.wl.kn (xo_jp (fun v' h' => v' = v ∧ h' = h2) (fun v' h' z => ?_) (fun j2 jh2 => ?_))
      · obtain ⟨rfl, rfl⟩ := z
        refine xo_g l2.wl.kn ?_
        rw [cn2]
        refine xo_wi (fun h3 e3 => ?_)
        have w3 : fW (rdA W K P) (rdR W) h' h3 := fw_i e3 (by unfold rdA; omega)
        cases hF : eGk B S (nx B (nx B t)) with
        | some er =>
          rw [hF] at q
          refine xo_g (Or.inl q.1) (xo_v ⟨(fw_rd (w1.trans w2a)).trans w3, q.1, ?_, ?_⟩)
          · rw [e_o e3 (Or.inl (by omega))]; exact q.2.1
          · rw [e_o e3 (Or.inl (by omega))]; exact q.2.2
        | none =>
          rw [hF] at q
          obtain ⟨q1, sm2, q2, q3⟩ := q
          refine xo_g (Or.inr q1) (xo_v ⟨(fw_rd (w1.trans w2a)).trans w3, q1, smP_t (smP_t sm1 sm2) ⟨e_o e3 (Or.inl (by omega)), e_o e3 (Or.inl (by omega))⟩, q2.2.2.fw (A := fun a j => a = W + 1) (R := noR) (fw_i e3 rfl) (fun j q => by omega), ?_⟩)
          have e3 : h3 = yi h' (W + 1) 2 (nI (sng S + 1)) := by
            rw [e3, q1]
            show _ = yi h' (W + 1) 2 (nI (sng S + 1))
            rw [← nI_s]
          refine CD_g d2 ws e3 ?_ q3
          exact NQ_k (s := 0) n1 (by omega) g w2
      · by_cases z : v = 0
        · refine xo_t z ?_
          exact jh2 _ _ ⟨z.symm, rfl⟩
        · have z1 : v = 1 := by
            cases hF : eGk B S (nx B (nx B t)) with
            | some er => rw [hF] at q; exact absurd q.1 z
            | none => rw [hF] at q; exact q.1
          exact xo_f z (jh2 _ _ ⟨z1.symm, rfl⟩)
    · by_cases b3 : isW B (nx B (nx B t)) 3 = true
      · rw [b3]
        refine xo_f (by decide) (xo_g H1.1.pk (xo_b (readCyclic_o H1 ws wk2 h6) (fun v h2 q => jh v h2 ?_)))
        simp only [eGk, gGk, tGk, b3, ↓reduceIte]
        exact q
      have b3 : isW B (nx B (nx B t)) 3 = false := by simpa using b3
      rw [b3]
      refine xo_t rfl (xo_g H1.1.pk (xo_n H1.1.pt (xo_g H1.1.kk (xo_eb (spells_v H1.1.kl wk2 H1.2.2 (by omega) (by omega)) ?_))))
      by_cases b4 : isW B (nx B (nx B t)) 4 = true
      · rw [b4]
        refine xo_f (by decide) (xo_g H1.1.pk (xo_b (readDihedral_o H1 ws wk2 h6) (fun v h2 q => jh v h2 ?_)))
        simp only [eGk, gGk, tGk, b3, b4, ↓reduceIte, Bool.false_eq_true]
        exact q
      have b4 : isW B (nx B (nx B t)) 4 = false := by simpa using b4
      rw [b4]
      refine xo_t rfl (xo_g H1.1.pk (xo_n H1.1.pt (xo_g H1.1.kk (xo_eb (spells_v H1.1.kl wk2 H1.2.2 (by omega) (by omega)) ?_))))
      by_cases b5 : isW B (nx B (nx B t)) 5 = true
      · rw [b5]
        refine xo_f (by decide) (xo_g H1.1.pk (xo_b (readQuaternion_o H1 ws wk2 h6) (fun v h2 q => jh v h2 ?_)))
        simp only [eGk, gGk, tGk, b3, b4, b5, ↓reduceIte, Bool.false_eq_true]
        exact q
      have b5 : isW B (nx B (nx B t)) 5 = false := by simpa using b5
      rw [b5]
      refine xo_t rfl (xo_g H1.1.pk (xo_n H1.1.pt (xo_g H1.1.kk (xo_eb (spells_v H1.1.kl wk2 H1.2.2 (by omega) (by omega)) ?_))))
      refine xo_jp (fun v h2 => fW (bK W K P S) (bR W S) h1 h2 ∧ cr P (if isW B (nx B (nx B t)) 6 = true then eo (eKn B S 0 (nx B (nx B (nx B t)))) (eo (eKn B S 0 (nx B (nx B (nx B (nx B t))))) (ck (decide (8 < sgn S (nmI S 0 (wdT B (nx B (nx B (nx B t))))) * sgn S (nmI S 0 (wdT B (nx B (nx B (nx B (nx B t)))))))) 4 (nx B (nx B (nx B (nx B t)))))) else some (1, tkA (nx B (nx B t)))) v h1 h2 (SH h2 X W K P B S T D (nx B (nx B (nx B (nx B (nx B t))))) ∧ SG h2 (W + 14 + 3 * sng S) (gPro S (nmI S 0 (wdT B (nx B (nx B (nx B t))))) (nmI S 0 (wdT B (nx B (nx B (nx B (nx B t)))))))))
        (fun v h2 q => jh v h2 (by
          simp only [eGk, gGk, tGk, b3, b4, b5, ↓reduceIte, Bool.false_eq_true] at q ⊢
          exact q)) (fun j2 jh2 => ?_)
      by_cases b6 : isW B (nx B (nx B t)) 6 = true
      · rw [b6] at jh2 ⊢
        refine xo_f (by decide) (xo_g H1.1.pk (xo_b (readProduct_o H1 ws nm wk2 h6) (fun v h2 q => jh2 v h2 ?_)))
        exact q
      have b6 : isW B (nx B (nx B t)) 6 = false := by simpa using b6
      rw [b6] at jh2 ⊢
      refine xo_t rfl (xo_g H1.1.pk (xo_b (refuse_s H1 1) (fun v h2 q => jh2 v h2 ⟨q.2.1, q.1, q.2.2⟩)))
end LINE
