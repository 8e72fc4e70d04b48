/-! The reference reads: what is told so far; groups. -/
set_option linter.unusedVariables false
/-- what is told so far, in the reference's rows -/
def RQy (h : XH) (Y : Nat) (S : SD) (T : ST) (D : Nat → Int32) : Prop := (xi h Y 35 = nI (sng S) ∧ xi h Y 36 = nI (snm S) ∧ xi h Y 37 = nI (sna S)) ∧ (∀ g, g < sng S → xi h (Y + 13) g = nI (sgn S g) ∧ ∀ a b, a < sgn S g → b < sgn S g → xi h (Y + 14) (64 * g + (8 * a + b)) = nI (sgt S g a b)) ∧ (∀ m, m < snm S → xi h (Y + 15) m = nI (smu S m) ∧ xi h (Y + 16) m = nI (sml S m) ∧ xi h (Y + 20) m = D m) ∧ (∀ a, a < sna S → xi h (Y + 17) a = nI (saf S a) ∧ xi h (Y + 18) a = nI (sao S a)) ∧ TR h (Y + 12) 0 S T ∧ ∀ s, s < 3 → RNm h Y S s
/-- where a line that tells something new writes, names apart -/
def cY (Y : Nat) (S : SD) : Nat → Nat → Prop := fun a j => oY Y a j ∨ (sng S < 6 ∧ ((a = Y + 13 ∧ j = sng S) ∨ (a = Y + 14 ∧ 64 * sng S ≤ j ∧ j < 64 * sng S + 64))) ∨ (snm S < 6 ∧ (((a = Y + 15 ∨ a = Y + 16 ∨ a = Y + 20) ∧ j = snm S) ∨ (a = Y + 12 ∧ ((8 * snm S ≤ j ∧ j < 8 * snm S + 8) ∨ (48 + 64 * snm S ≤ j ∧ j < 48 + 64 * snm S + 64))))) ∨ (sna S < 8 ∧ (((a = Y + 17 ∨ a = Y + 18) ∧ j = sna S) ∨ (a = Y + 12 ∧ ((432 + 8 * sna S ≤ j ∧ j < 432 + 8 * sna S + 8) ∨ (496 + 8 * sna S ≤ j ∧ j < 496 + 8 * sna S + 8)))))
def yAll (Y : Nat) : Nat → Nat → Prop := fun a j => (a = Y ∧ 21 ≤ j ∧ j ≤ 26) ∨ (a = Y ∧ 35 ≤ j ∧ j ≤ 37) ∨ (Y + 12 ≤ a ∧ a ≤ Y + 20)
/-- a line's end -/
def LR (h : XH) (Y : Nat) (B : BF) (e : ER) (A' : PA) (h' : XH) : Prop := fW (yAll Y) noR h h' ∧ RSy h' Y B e (paK A') (fun h => RQy h Y (paZ A') (paT A') (paD A'))
def lY (Y g0 : Nat) : Nat → Nat → Prop := fun a j => (a = Y + 13 ∧ j = g0) ∨ (a = Y + 14 ∧ 64 * g0 ≤ j ∧ j < 64 * g0 + 64)
def SGr (h : XH) (Y g0 : Nat) (g : GR) : Prop := xi h (Y + 13) g0 = nI g.1 ∧ ∀ a b, a < g.1 → b < g.1 → xi h (Y + 14) (64 * g0 + (8 * a + b)) = nI (g.2.1 a b)
theorem xo_lte {α β : Type} {v x : β} {f : β → XP α} {Q : α → XH → Prop} (e : v = x) (hm : xo (f x) Q) : xo (xlt v f) Q := by rw [e]; exact hm
section RGR
variable {E : XG} {h h' h1 h2 : XH} {Y i g0 : Nat} {B : BF} {t : TK} {er : ER} {S : SD} {T : ST} {D : Nat → Int32} {A : Nat → Nat → Prop}
theorem fw_ya (w : fW (cY Y S) noR h h') : fW (yAll Y) noR h h' := w.wide (fun a j q => by unfold cY oY at q; unfold yAll; omega) (fun a j q => q)
theorem fw_yn {s : Nat} (hs : s < 3) (w : fW (nY Y S s) noR h h') : fW (yAll Y) noR h h' := w.wide (fun a j q => by unfold nY oY at q; unfold yAll; omega) (fun a j q => q)
theorem fw_oc (w : fW (oY Y) noR h h') : fW (cY Y S) noR h h' := w.wide (fun a j q => Or.inl q) (fun a j q => q)
/-- cells that hold it -/
theorem RQ_fw (c : RQy h Y S T D) (ws : WS S) (w : fW A noR h h') (hA : ∀ a j, A a j → cY Y S a j ∨ (∃ s, s < 3 ∧ nY Y S s a j)) : RQy h' Y S T D := by
  obtain ⟨⟨c1, c2, c3⟩, c4, c5, c6, c7, c8⟩ := c
  obtain ⟨⟨w1, w2, w3⟩, w4, w5, w6⟩ := ws
  have nt : ∀ a j, ¬ cY Y S a j → (∀ s, s < 3 → ¬ nY Y S s a j) → xi h' a j = xi h a j := fun a j q1 q2 => w.i (fun z => by
    rcases hA a j z with z | ⟨s, hs, z⟩
    · exact q1 z
    · exact q2 s hs z)
  have n8 : ∀ m, m < snm S → nuS S m ≤ 8 ∧ nlS2 S m ≤ 8 := fun m hm => ⟨(w4 _ (w5 m hm).1).1.2, (w4 _ (w5 m hm).2).1.2⟩
  refine ⟨⟨?_, ?_, ?_⟩, fun g hg => ⟨?_, fun a b ha hb => ?_⟩, fun m hm => ⟨?_, ?_, ?_⟩, fun a ha => ⟨?_, ?_⟩, ⟨fun m a q1 q2 => ?_, fun m g a q1 q2 q3 => ?_, fun a x q1 q2 => ?_, fun a x q1 q2 => ?_, fun x q1 => ?_⟩, fun s hs k i hk hi => ?_⟩
  · rw [nt _ _ (by unfold cY oY; omega) (fun s hs => by unfold nY oY; omega)]; exact c1
  · rw [nt _ _ (by unfold cY oY; omega) (fun s hs => by unfold nY oY; omega)]; exact c2
  · rw [nt _ _ (by unfold cY oY; omega) (fun s hs => by unfold nY oY; omega)]; exact c3
  · rw [nt _ _ (by unfold cY oY; omega) (fun s hs => by unfold nY oY; omega)]; exact (c4 g hg).1
  · have g8 := (w4 g hg).1.2
    rw [nt _ _ (by unfold cY oY; omega) (fun s hs => by unfold nY oY; omega)]; exact (c4 g hg).2 a b ha hb
  · rw [nt _ _ (by unfold cY oY; omega) (fun s hs => by unfold nY oY; omega)]; exact (c5 m hm).1
  · rw [nt _ _ (by unfold cY oY; omega) (fun s hs => by unfold nY oY; omega)]; exact (c5 m hm).2.1
  · rw [nt _ _ (by unfold cY oY; omega) (fun s hs => by unfold nY oY; omega)]; exact (c5 m hm).2.2
  · rw [nt _ _ (by unfold cY oY; omega) (fun s hs => by unfold nY oY; omega)]; exact (c6 a ha).1
  · rw [nt _ _ (by unfold cY oY; omega) (fun s hs => by unfold nY oY; omega)]; exact (c6 a ha).2
  · have := n8 m q1
    rw [nt _ _ (by unfold cY oY; omega) (fun s hs => by unfold nY oY; omega)]; exact c7.1 m a q1 q2
  · have := n8 m q1
    rw [nt _ _ (by unfold cY oY; omega) (fun s hs => by unfold nY oY; omega)]; exact c7.2.1 m g a q1 q2 q3
  · have := n8 _ (w6 a q1).1
    rw [nt _ _ (by unfold cY oY; omega) (fun s hs => by unfold nY oY; omega)]; exact c7.2.2.1 a x q1 q2
  · have := n8 _ (w6 a q1).1
    rw [nt _ _ (by unfold cY oY; omega) (fun s hs => by unfold nY oY; omega)]; exact c7.2.2.2.1 a x q1 q2
  · rw [nt _ _ (by unfold cY oY; omega) (fun s hs => by unfold nY oY; omega)]; exact c7.2.2.2.2 x q1
  · have e : ∀ s', s' < 3 → ¬ nY Y S s' (Y + 19) (10 * (6 * s + k) + i) := fun s' hs' z => by
      unfold nY oY at z
      have m0 : ∀ s, s < 3 → mxS s = if s = 2 then 8 else 6 := fun s _ => rfl
      have a1 := m0 s' hs'
      have sc : scn S s ≤ mxS s := by
        match s, hs with
        | 0, _ => exact w1
        | 1, _ => exact w2
        | 2, _ => exact w3
      have a2 := m0 s hs
      by_cases q : s' = s
      · subst q; omega
      · have d : s' = 0 ∨ s' = 1 ∨ s' = 2 := by omega
        have d2 : s = 0 ∨ s = 1 ∨ s = 2 := by omega
        rcases d with rfl | rfl | rfl <;> rcases d2 with rfl | rfl | rfl <;> simp at a1 a2 <;> omega
    rw [nt _ _ (by unfold cY oY; omega) e]; exact c8 s hs k i hk hi
theorem RQ_c (ws : WS S) : StA (cY Y S) (fun h => RQy h Y S T D) := fun h h' w c => RQ_fw c ws w (fun a j q => Or.inl q)
theorem RQ_n (ws : WS S) {s : Nat} (hs : s < 3) : StA (nY Y S s) (fun h => RQy h Y S T D) := fun h h' w c => RQ_fw c ws w (fun a j q => Or.inr ⟨s, hs, q⟩)
theorem RNn_c {s : Nat} {w : List Nat} : StA (cY Y S) (fun h => RNn h Y S s w) := fun h h' v c i hi => (v.i (fun q => by unfold cY oY at q; omega)).trans (c i hi)
theorem Q1_c (ws : WS S) {s : Nat} {w : List Nat} : StA (cY Y S) (fun h => RQy h Y S T D ∧ RNn h Y S s w) := fun h h' v c => ⟨RQ_c ws h h' v c.1, RNn_c h h' v c.2⟩
theorem StA_o {Q : XH → Prop} (q : StA (cY Y S) Q) : StA (oY Y) Q := fun h h' w c => q h h' (fw_oc w) c
theorem lays_v (y : YL h Y) (e : xi h Y 35 = nI g0) (hg : g0 < 6) {a b : Nat} (ha : a < 8) (hb : b < 8) (v : Int32) : FX9_lays E Y (nI a) (nI b) v h = xv () (yi h (Y + 14) (64 * g0 + (8 * a + b)) v) := by
  have cx : (64 : Int32) * nI g0 + 8 * nI a + nI b = nI (64 * g0 + (8 * a + b)) := by rw [li64, li8, nI_m, nI_m, nI_a, nI_a, Nat.add_assoc]
  unfold FX9_lays
  (try dsimp only); (rw [xg_t (y.1), xnn_e (y.r14), xg_t (y.1), e, cx, xg_t (y.g14 (show 64 * g0 + (8 * a + b) < 384 by omega)), xz_nI (n := 64 * g0 + (8 * a + b)) (by omega)])
  rfl
def GQr (Y g0 : Nat) (g : GR) (h h' : XH) : Prop := fW (lY Y g0) noR h h' ∧ SGr h' Y g0 g
theorem cycr_o (y : YL h Y) (e0 : xi h Y 25 = 0) (e : xi h Y 35 = nI g0) (hg : g0 < 6) {n : Nat} (h0 : 0 < n) (h8 : n ≤ 8) : xo (FX9_laysCyclic E Y (nI n) h) (fun _ h' => GQr Y g0 (gCyc n) h h') := by
  have nz : ¬ nI n = (0 : Int32) := by rw [nI_eq0 (by omega)]; omega
  unfold FX9_laysCyclic
  refine xo_g y.1 (xo_t e0 (xo_g y.1 (xo_n y.r13 (xo_g y.1 ?_))))
  rw [e]
  refine xo_g (y.g13 hg) ?_
  rw [xz_nI (by omega)]
  refine xo_wi (fun h1 e1 => ?_)
  have w1 : fW (lY Y g0) noR h h1 := fw_i e1 (Or.inl ⟨rfl, rfl⟩)
  refine grid_o (I := fun i j h' => (fW (lY Y g0) noR h h' ∧ xi h' (Y + 13) g0 = nI n) ∧ TB h' (Y + 14) (64 * g0) n i j (gCyc n).2.1) rfl (by omega) ⟨⟨w1, e_s e1⟩, TB_0 _ _ _ _ _⟩ (fun i h' _ q => ⟨q.1, TB_row q.2⟩) (fun i j h2 ag hi hj q again => ?_) (fun h2 q => ⟨q.1.1, q.1.2, TB_all q.2⟩)
  obtain ⟨⟨w2, q2⟩, q3⟩ := q
  have y2 := YL_fw y w2
  have e2 : xi h2 Y 35 = nI g0 := (w2.i (fun z => by unfold lY at z; omega)).trans e
  refine xo_g nz (xo_g y2.1 ?_)
  rw [nI_a, rem_nI (by omega) h0 (by omega)]
  refine xo_eb (lays_v y2 e2 hg (by omega) (by omega) _) (again _ ⟨⟨w2.trans (fw_i rfl (Or.inr ⟨rfl, by omega, by omega⟩)), ?_⟩, TB_put q3 h8 hi hj rfl⟩)
  rw [xi_yi2 _ _ (Or.inl (by omega))]; exact q2
theorem dihr_o (y : YL h Y) (e0 : xi h Y 25 = 0) (e : xi h Y 35 = nI g0) (hg : g0 < 6) {n : Nat} (h3 : 3 ≤ n) (h4 : n ≤ 4) : xo (FX9_laysDihedral E Y (nI n) h) (fun _ h' => GQr Y g0 (gDih n) h h') := by
  have nz : ¬ nI n = (0 : Int32) := by rw [nI_eq0 (by omega)]; omega
  unfold FX9_laysDihedral
  refine xo_g y.1 (xo_t e0 (xo_g y.1 (xo_n y.r13 (xo_g y.1 ?_))))
  rw [e]
  refine xo_g (y.g13 hg) ?_
  rw [xz_nI (by omega)]
  refine xo_wi (fun h1 e1 => ?_)
  have w1 : fW (lY Y g0) noR h h1 := fw_i e1 (Or.inl ⟨rfl, rfl⟩)
  have a1 : xi h1 (Y + 13) g0 = nI (2 * n) := by rw [e_s e1, li2, nI_m]
  refine grid_o (I := fun i j h' => (fW (lY Y g0) noR h h' ∧ xi h' (Y + 13) g0 = nI (2 * n)) ∧ ∀ a b, a < 2 * n → b < 2 * n → (a % n < i ∨ (a % n = i ∧ b % n < j)) → xi h' (Y + 14) (64 * g0 + (8 * a + b)) = nI ((gDih n).2.1 a b)) rfl (by omega) ⟨⟨w1, a1⟩, fun a b _ _ q => by omega⟩ (fun i h' hi q => ⟨q.1, fun a b ha hb z => q.2 a b ha hb (by have := Nat.mod_lt b (show 0 < n by omega); omega)⟩) (fun i j h2 ag hi hj q again => ?_) (fun h2 q => ⟨q.1.1, q.1.2, fun a b ha hb => q.2 a b ha hb (Or.inl (Nat.mod_lt a (by omega)))⟩)
  obtain ⟨⟨w2, q2⟩, q3⟩ := q
  have lv : ∀ {h9}, fW (lY Y g0) noR h h9 → ∀ {a b : Nat}, a < 8 → b < 8 → ∀ v, FX9_lays E Y (nI a) (nI b) v h9 = xv () (yi h9 (Y + 14) (64 * g0 + (8 * a + b)) v) := fun w9 => fun {a b} ha hb v => lays_v (YL_fw y w9) ((w9.i (fun z => by unfold lY at z; omega)).trans e) hg ha hb v
  have kv : ∀ {h9}, fW (lY Y g0) noR h h9 → xk h9 Y = 10 := fun w9 => (w9.k _).trans y.1
  rw [nI_a, nI_a, nI_a, pk_sub (by omega), rem_nI (by omega) (by omega) (by omega), rem_nI (by omega) (by omega) (by omega), nI_a, nI_a]
  refine xo_g nz (xo_g (kv w2) (xo_eb (lv w2 (by omega) (by omega) _) ?_))
  obtain ⟨h5, e5⟩ : ∃ h5, h5 = yi h2 (Y + 14) (64 * g0 + (8 * i + j)) (nI ((i + j) % n)) := ⟨_, rfl⟩
  rw [← e5]
  have w5 : fW (lY Y g0) noR h h5 := w2.trans (fw_i e5 (Or.inr ⟨rfl, by omega, by omega⟩))
  refine xo_g nz (xo_g (kv w5) (xo_eb (lv w5 (by omega) (by omega) _) ?_))
  obtain ⟨h6, e6⟩ : ∃ h6, h6 = yi h5 (Y + 14) (64 * g0 + (8 * i + (n + j))) (nI (n + (i + j) % n)) := ⟨_, rfl⟩
  rw [← e6]
  have w6 : fW (lY Y g0) noR h h6 := w5.trans (fw_i e6 (Or.inr ⟨rfl, by omega, by omega⟩))
  refine xo_g nz (xo_g (kv w6) (xo_eb (lv w6 (by omega) (by omega) _) ?_))
  obtain ⟨h7, e7⟩ : ∃ h7, h7 = yi h6 (Y + 14) (64 * g0 + (8 * (n + i) + j)) (nI (n + (n + i - j) % n)) := ⟨_, rfl⟩
  rw [← e7]
  have w7 : fW (lY Y g0) noR h h7 := w6.trans (fw_i e7 (Or.inr ⟨rfl, by omega, by omega⟩))
  refine xo_g nz (xo_g (kv w7) (xo_eb (lv w7 (by omega) (by omega) _) ?_))
  obtain ⟨h8, e8⟩ : ∃ h8, h8 = yi h7 (Y + 14) (64 * g0 + (8 * (n + i) + (n + j))) (nI ((n + i - j) % n)) := ⟨_, rfl⟩
  rw [← e8]
  have w8 : fW (lY Y g0) noR h h8 := w7.trans (fw_i e8 (Or.inr ⟨rfl, by omega, by omega⟩))
  refine again h8 ⟨⟨w8, ?_⟩, fun a b ha hb z => ?_⟩
  · rw [e_o e8 (Or.inl (by omega)), e_o e7 (Or.inl (by omega)), e_o e6 (Or.inl (by omega)), e_o e5 (Or.inl (by omega))]
    exact q2
  · have am : a % n = if a < n then a else a - n := by
      by_cases c : a < n
      · rw [if_pos c, Nat.mod_eq_of_lt c]
      · rw [if_neg c, Nat.mod_eq_sub_mod (by omega), Nat.mod_eq_of_lt (by omega)]
    have bm : b % n = if b < n then b else b - n := by
      by_cases c : b < n
      · rw [if_pos c, Nat.mod_eq_of_lt c]
      · rw [if_neg c, Nat.mod_eq_sub_mod (by omega), Nat.mod_eq_of_lt (by omega)]
    by_cases z2 : a % n = i ∧ b % n = j
    · obtain ⟨z3, z4⟩ := z2
      rw [am] at z3
      rw [bm] at z4
      show _ = nI (if a < n then (if b < n then (a + b) % n else n + (a + (b - n)) % n) else (if b < n then n + (a - b) % n else (a - (b - n)) % n))
      by_cases ca : a < n
      · rw [if_pos ca] at z3 ⊢
        by_cases cb : b < n
        · rw [if_pos cb] at z4 ⊢
          subst z3; subst z4
          rw [e_o e8 (Or.inr (by omega)), e_o e7 (Or.inr (by omega)), e_o e6 (Or.inr (by omega)), e_s e5]
        · rw [if_neg cb] at z4 ⊢
          have eb : b = n + j := by omega
          subst z3; subst eb
          rw [e_o e8 (Or.inr (by omega)), e_o e7 (Or.inr (by omega)), e_s e6, show n + j - n = j by omega]
      · rw [if_neg ca] at z3 ⊢
        have ea : a = n + i := by omega
        by_cases cb : b < n
        · rw [if_pos cb] at z4 ⊢
          subst ea; subst z4
          rw [e_o e8 (Or.inr (by omega)), e_s e7]
        · rw [if_neg cb] at z4 ⊢
          have eb : b = n + j := by omega
          subst ea; subst eb
          rw [e_s e8, show n + j - n = j by omega]
    · have ne : ∀ x y, x < 2 * n → y < 2 * n → (x % n = i ∧ y % n = j) → 64 * g0 + (8 * a + b) ≠ 64 * g0 + (8 * x + y) := fun x y hx hy z9 z8 => by
        have e1 : a = x := by omega
        have e2 : b = y := by omega
        exact z2 (by rw [e1, e2]; exact z9)
      have m1 : (n + i) % n = i := by rw [Nat.add_mod_left, Nat.mod_eq_of_lt hi]
      have m2 : (n + j) % n = j := by rw [Nat.add_mod_left, Nat.mod_eq_of_lt hj]
      have m3 := Nat.mod_eq_of_lt hi
      have m4 := Nat.mod_eq_of_lt hj
      rw [e_o e8 (Or.inr (ne _ _ (by omega) (by omega) ⟨m1, m2⟩)), e_o e7 (Or.inr (ne _ _ (by omega) (by omega) ⟨m1, m4⟩)), e_o e6 (Or.inr (ne _ _ (by omega) (by omega) ⟨m3, m2⟩)), e_o e5 (Or.inr (ne _ _ (by omega) (by omega) ⟨m3, m4⟩))]
      refine q3 a b ha hb ?_
      rcases z with z | z
      · exact Or.inl z
      · right
        refine ⟨z.1, ?_⟩
        have : ¬ b % n = j := fun y => z2 ⟨z.1, y⟩
        omega
def ofI (p1 p2 : Int32) : Int32 := if p1 = 0 then p1 + p2 else if p2 = 0 then p1 + p2 else if p1 = p2 then 4 else if p2 = xrem p1 3 + 1 then (6 - p1) - p2 else ((6 - p1) - p2) + 4
theorem ofUnits_v (p1 p2 : Int32) : FX9_ofUnits E p1 p2 h = xv (ofI p1 p2) h := by
  unfold FX9_ofUnits ofI
  (try dsimp only); (rw [xjn_d])
  by_cases c1 : p1 = 0
  · rw [if_pos c1, if_pos c1]
  rw [if_neg c1, if_neg c1]
  by_cases c2 : p2 = 0
  · rw [if_pos c2, if_pos c2]
  rw [if_neg c2, if_neg c2]
  by_cases c3 : p1 = p2
  · rw [if_pos c3, if_pos c3]
  rw [if_neg c3, if_neg c3, xlt_d, xg_t (by decide), xjn_d]
  by_cases c4 : p2 = xrem p1 3 + 1
  · rw [if_pos c4, if_pos c4]
  · rw [if_neg c4, if_neg c4]
theorem ofI_e : ∀ a, a < 8 → ∀ b, b < 8 → xrem ((ofI (xrem (nI a) 4) (xrem (nI b) 4) + ((nI a / 4) * 4)) + ((nI b / 4) * 4)) 8 = nI (gQua.2.1 a b) := by decide +kernel
theorem quar_o (y : YL h Y) (e0 : xi h Y 25 = 0) (e : xi h Y 35 = nI g0) (hg : g0 < 6) : xo (FX9_laysQuaternion E Y h) (fun _ h' => GQr Y g0 gQua h h') := by
  unfold FX9_laysQuaternion
  refine xo_g y.1 (xo_t e0 (xo_g y.1 (xo_n y.r13 (xo_g y.1 ?_))))
  rw [e]
  refine xo_g (y.g13 hg) ?_
  rw [xz_nI (by omega)]
  refine xo_wi (fun h1 e1 => ?_)
  have w1 : fW (lY Y g0) noR h h1 := fw_i e1 (Or.inl ⟨rfl, rfl⟩)
  refine grid_o (n := 8) (I := fun i j h' => (fW (lY Y g0) noR h h' ∧ xi h' (Y + 13) g0 = nI 8) ∧ TB h' (Y + 14) (64 * g0) 8 i j gQua.2.1) rfl (by omega) ⟨⟨w1, e_s e1⟩, TB_0 _ _ _ _ _⟩ (fun i h' _ q => ⟨q.1, TB_row q.2⟩) (fun i j h2 ag hi hj q again => ?_) (fun h2 q => ⟨q.1.1, q.1.2, TB_all q.2⟩)
  obtain ⟨⟨w2, q2⟩, q3⟩ := q
  have y2 := YL_fw y w2
  have e2 : xi h2 Y 35 = nI g0 := (w2.i (fun z => by unfold lY at z; omega)).trans e
  refine xo_g (by decide) (xo_g (by decide) (xo_eb (ofUnits_v _ _) (xo_g (by decide) (xo_g (by decide) (xo_g (by decide) (xo_g y2.1 ?_))))))
  rw [ofI_e i hi j hj]
  refine xo_eb (lays_v y2 e2 hg (by omega) (by omega) _) (again _ ⟨⟨w2.trans (fw_i rfl (Or.inr ⟨rfl, by omega, by omega⟩)), ?_⟩, TB_put q3 (by omega) hi hj rfl⟩)
  rw [xi_yi2 _ _ (Or.inl (by omega))]; exact q2
theorem div_nIg : ∀ n, n < 9 → 0 < n → ∀ a, a < 9 → nI a / nI n = nI (a / n) := by decide +kernel
theorem pror_o (y : YL h Y) (c : RQy h Y S T D) (ws : WS S) (hg : sng S < 6) {a b : Nat} (a0 : a < sng S) (b0 : b < sng S) (h8 : sgn S a * sgn S b ≤ 8) : xo (FX9_laysProduct E Y (nI a) (nI b) h) (fun _ h' => GQr Y (sng S) (gPro S a b) h h') := by
  have ga := ws.2.1 a a0
  have gb := ws.2.1 b b0
  have b8 := gb.1.2
  have e : xi h Y 35 = nI (sng S) := c.1.1
  have ca := c.2.1 a a0
  have cb := c.2.1 b b0
  have nz : ¬ nI (sgn S b) = (0 : Int32) := by rw [nI_eq0 (by omega)]; omega
  unfold FX9_laysProduct
  have sb0 : xi h (Y + 13) (nI b).toNatClampNeg = nI (sgn S b) := by rw [xz_nI (by omega)]; exact cb.1
  have ev : yi h (Y + 13) (xi h Y 35).toNatClampNeg (xi h (Y + 13) (nI a).toNatClampNeg * nI (sgn S b)) = yi h (Y + 13) (sng S) (nI (sgn S a * sgn S b)) := by rw [e, xz_nI (by omega), xz_nI (by omega), ca.1, nI_m]
  refine xo_g y.1 (xo_n y.r13 (xo_g (y.g13 (by omega)) (xo_lte sb0 (xo_g y.1 (xo_n y.r13 (xo_g y.1 (xo_g y.1 (xo_n y.r13 (xo_g (y.g13 (by omega)) (xo_g (by rw [e]; exact y.g13 hg) (xo_lte ev ?_)))))))))))
  obtain ⟨h1, e1⟩ : ∃ h1, h1 = yi h (Y + 13) (sng S) (nI (sgn S a * sgn S b)) := ⟨_, rfl⟩
  rw [← e1]
  have w1 : fW (lY Y (sng S)) noR h h1 := fw_i e1 (Or.inl ⟨rfl, rfl⟩)
  generalize hN : sgn S a * sgn S b = N at *
  have eN : (gPro S a b).1 = N := hN
  have sa : ∀ {h9}, fW (lY Y (sng S)) noR h h9 → xi h9 (Y + 13) (nI a).toNatClampNeg = nI (sgn S a) := fun w9 => by
    rw [xz_nI (by omega)]
    exact (w9.i (fun z => by unfold lY at z; omega)).trans ca.1
  refine xlp_inv (Po := fun m => xo m _) (fun i s h' => s = nI i ∧ (fW (lY Y (sng S)) noR h h' ∧ xi h' (Y + 13) (sng S) = nI N) ∧ TB h' (Y + 14) (64 * sng S) N i 0 (gPro S a b).2.1) N (by omega) (fun i s h' ag hi J again => ?_) ⟨rfl, ⟨w1, e_s e1⟩, TB_0 _ _ _ _ _⟩
  obtain ⟨rfl, ⟨w2, q2⟩, q3⟩ := J
  have y2 := YL_fw y w2
  refine xo_g y2.1 (xo_n y2.r13 (xo_g (y2.g13 (by omega)) ?_))
  rw [sa w2, nI_m, hN]
  by_cases e9 : i = N
  · subst e9
    refine xo_t (Int32.le_refl _) (xo_v ⟨w2, by rw [eN]; exact q2, ?_⟩)
    rw [eN]
    exact TB_all q3
  · have hlt : i < N := by omega
    refine xo_f (nI_ge hlt (by omega)) ?_
    refine xlp_inv (Po := fun m => xo m _) (fun j s h' => s = nI j ∧ (fW (lY Y (sng S)) noR h h' ∧ xi h' (Y + 13) (sng S) = nI N) ∧ TB h' (Y + 14) (64 * sng S) N i j (gPro S a b).2.1) N (by omega) (fun j s h4 ag2 hj J2 again2 => ?_) ⟨rfl, ⟨w2, q2⟩, q3⟩
    obtain ⟨rfl, ⟨w4, q4⟩, q5⟩ := J2
    have y4 := YL_fw y w4
    refine xo_g y4.1 (xo_n y4.r13 (xo_g (y4.g13 (by omega)) ?_))
    rw [sa w4, nI_m, hN]
    by_cases e2 : j = N
    · subst e2
      refine xo_t (Int32.le_refl _) ?_
      rw [nI_s]
      exact again hlt _ _ ⟨rfl, ⟨w4, q4⟩, TB_row q5⟩
    · have hlj : j < N := by omega
      have hi2 := dm_of (n := sgn S b) (m := sgn S a) (x := i) (by omega)
      have hj2 := dm_of (n := sgn S b) (m := sgn S a) (x := j) (by omega)
      have a8 := ga.1.2
      have cx1 : (64 : Int32) * nI a + 8 * (nI i / nI (sgn S b)) + nI j / nI (sgn S b) = nI (64 * a + (8 * (i / sgn S b) + j / sgn S b)) := by rw [div_nIg _ (by omega) gb.1.1 i (by omega), div_nIg _ (by omega) gb.1.1 j (by omega), li64, li8, nI_m, nI_m, nI_a, nI_a, Nat.add_assoc]
      have cx2 : (64 : Int32) * nI b + 8 * xrem (nI i) (nI (sgn S b)) + xrem (nI j) (nI (sgn S b)) = nI (64 * b + (8 * (i % sgn S b) + j % sgn S b)) := by rw [rem_nI (by omega) gb.1.1 (by omega), rem_nI (by omega) gb.1.1 (by omega), li64, li8, nI_m, nI_m, nI_a, nI_a, Nat.add_assoc]
      have v1 : xi h4 (Y + 14) (64 * a + (8 * (i / sgn S b) + j / sgn S b)) = nI (sgt S a (i / sgn S b) (j / sgn S b)) := (w4.i (fun z => by unfold lY at z; omega)).trans (ca.2 _ _ hi2.1 hj2.1)
      have v2 : xi h4 (Y + 14) (64 * b + (8 * (i % sgn S b) + j % sgn S b)) = nI (sgt S b (i % sgn S b) (j % sgn S b)) := (w4.i (fun z => by unfold lY at z; omega)).trans (cb.2 _ _ hi2.2 hj2.2)
      refine xo_f (nI_ge hlj (by omega)) (xo_g y4.1 (xo_n y4.r14 (xo_g nz (xo_g nz ?_))))
      rw [cx1, cx2]
      refine xo_g (y4.g14 (by omega)) (xo_g y4.1 (xo_n y4.r14 (xo_g nz (xo_g nz (xo_g (y4.g14 (by omega)) (xo_g y4.1 ?_))))))
      rw [xz_nI (n := 64 * a + (8 * (i / sgn S b) + j / sgn S b)) (by omega), xz_nI (n := 64 * b + (8 * (i % sgn S b) + j % sgn S b)) (by omega), v1, v2, nI_m, nI_a]
      have e4 : xi h4 Y 35 = nI (sng S) := (w4.i (fun z => by unfold lY at z; omega)).trans e
      refine xo_eb (lays_v y4 e4 hg (by omega) (by omega) _) ?_
      rw [nI_s]
      refine again2 hlj _ _ ⟨rfl, ⟨w4.trans (fw_i rfl (Or.inr ⟨rfl, by omega, by omega⟩)), ?_⟩, TB_put q5 h8 hlt hlj rfl⟩
      rw [xi_yi2 _ _ (Or.inl (by omega))]; exact q4
/-- a group more -/
theorem RQ_g {w : List Nat} {g : GR} (c : RQy h1 Y S T D) (ws : WS S) (e : h2 = yi h1 Y 35 (nI (sng S + 1))) (n : RNn h1 Y S 0 w) (q : SGr h1 Y (sng S) g) : RQy h2 Y (sAg (sNm S 0 w) g) T D := by
  obtain ⟨⟨c1, c2, c3⟩, c4, c5, c6, c7, c8⟩ := c
  obtain ⟨⟨w1, w2, w3⟩, w4, w5, w6⟩ := ws
  have o : ∀ k, ¬ k = sng S → (sAg (sNm S 0 w) g).2.1 k = S.2.1 k := fun k hk => if_neg hk
  have os : ∀ k, k < sng S → sgn (sAg (sNm S 0 w) g) k = sgn S k := fun k hk => congrArg (·.1) (o k (by omega))
  have nw : (sAg (sNm S 0 w) g).2.1 (sng S) = g := if_pos rfl
  have ou : ∀ m, m < snm S → nuS (sAg (sNm S 0 w) g) m = nuS S m := fun m hm => os _ (w5 m hm).1
  have ol : ∀ m, m < snm S → nlS2 (sAg (sNm S 0 w) g) m = nlS2 S m := fun m hm => os _ (w5 m hm).2
  have ne : ∀ a j, (¬ a = Y ∨ ¬ j = 35) → xi h2 a j = xi h1 a j := fun a j z => e_o e z
  refine ⟨⟨e_s e, (ne _ _ (Or.inr (by decide))).trans c2, (ne _ _ (Or.inr (by decide))).trans c3⟩, fun k hk => ?_, fun m hm => ⟨(ne _ _ (Or.inl (by omega))).trans (c5 m hm).1, (ne _ _ (Or.inl (by omega))).trans (c5 m hm).2.1, (ne _ _ (Or.inl (by omega))).trans (c5 m hm).2.2⟩, fun a ha => ⟨(ne _ _ (Or.inl (by omega))).trans (c6 a ha).1, (ne _ _ (Or.inl (by omega))).trans (c6 a ha).2⟩, ⟨fun m a q1 q2 => ?_, fun m g' a q1 q2 q3 => ?_, fun a x q1 q2 => ?_, fun a x q1 q2 => ?_, fun x q1 => (ne _ _ (Or.inl (by omega))).trans (c7.2.2.2.2 x q1)⟩, fun s hs k i hk hi => ?_⟩
  · have hk : k < sng S + 1 := hk
    unfold sgn sgt
    by_cases z : k = sng S
    · subst z
      rw [nw]
      exact ⟨(ne _ _ (Or.inl (by omega))).trans q.1, fun a b ha hb => (ne _ _ (Or.inl (by omega))).trans (q.2 a b ha hb)⟩
    · rw [o k z]
      have := c4 k (by omega)
      exact ⟨(ne _ _ (Or.inl (by omega))).trans this.1, fun a b ha hb => (ne _ _ (Or.inl (by omega))).trans (this.2 a b ha hb)⟩
  · rw [ou m q1] at q2
    exact (ne _ _ (Or.inl (by omega))).trans (c7.1 m a q1 q2)
  · rw [ou m q1] at q3
    rw [ol m q1] at q2
    exact (ne _ _ (Or.inl (by omega))).trans (c7.2.1 m g' a q1 q2 q3)
  · have q2 : x < nuS (sAg (sNm S 0 w) g) (saf S a) := q2
    rw [ou _ (w6 a q1).1] at q2
    exact (ne _ _ (Or.inl (by omega))).trans (c7.2.2.1 a x q1 q2)
  · have q2 : x < nlS2 (sAg (sNm S 0 w) g) (saf S a) := q2
    rw [ol _ (w6 a q1).1] at q2
    exact (ne _ _ (Or.inl (by omega))).trans (c7.2.2.2.1 a x q1 q2)
  · rw [scn_ag s hs] at hk
    show xi h2 _ _ = nI ((if s = 0 ∧ k = scn S 0 then w else snn S s k).getD i 0)
    by_cases z : s = 0 ∧ k = scn S 0
    · rw [if_pos z, ne _ _ (Or.inl (by omega)), z.1, z.2]
      exact n i hi
    · rw [if_neg z, ne _ _ (Or.inl (by omega))]
      refine c8 s hs k i ?_ hi
      by_cases y : s = 0
      · rw [if_pos y] at hk
        subst y
        have : ¬ k = scn S 0 := fun x => z ⟨rfl, x⟩
        omega
      · rw [if_neg y] at hk; exact hk
theorem flag_v (b : Bool) : FX9_flag E (bI b) h = xv (bI b) h := by
  unfold FX9_flag
  rw [xjn_d]
  cases b
  · rw [if_pos (show bI false = (0 : Int32) from rfl)]; rfl
  · rw [if_neg (show ¬ bI true = (0 : Int32) by decide)]; rfl
theorem fw_lc (hg : sng S < 6) (w : fW (lY Y (sng S)) noR h h') : fW (cY Y S) noR h h' := w.wide (fun a j q => Or.inr (Or.inl ⟨hg, q⟩)) (fun a j q => q)
theorem RSy_l {Q Q' : XH → Prop} (H : RSy h Y B none t Q') (w : fW A noR h h') (hA : ∀ a j, A a j → Y + 12 ≤ a) (hQ : Q h') : RSy h' Y B none t Q := ⟨RLy_fw H.1 w (fun a j q => by have := hA a j q; omega), (w.i (fun q => by have := hA _ _ q; omega)).trans H.2.1, ⟨H.2.2.1.1, RTk_fw H.2.2.1.2 w (fun j _ _ q => by have := hA _ _ q; omega)⟩, hQ⟩
theorem groupLine_o (H : RSy h Y B none t (fun h => RQy h Y S T D)) (ws : WS S) (nm : WNm S) : xo (FX9_groupLine E Y h) (fun _ h' => LR h Y B (eGl B S t) (nGl B S T D t) h') := by
  have c0 := H.2.2.2
  have g6 := ws.1.1
  have wk := H.2.2.1.1
  have Qo : StA (oY Y) (fun h => RQy h Y S T D) := StA_o (RQ_c ws)
  have mx : mxS 0 = 6 := rfl
  unfold FX9_groupLine
  refine xo_g H.y.1 (xo_jp (fun v h1 => h1 = h ∧ v = bI (decide (sng S = 6))) (fun v h1 z => ?_) (fun j jh => ?_))
  · obtain ⟨rfl, rfl⟩ := z
    refine xo_g H.y.1 (xo_b (failsIf_s (code := 4) (c := decide (sng S = 6)) H Qo (by omega) (by omega) (fun _ => rfl)) (fun _ h2 q => ?_))
    obtain ⟨w2, H2⟩ := q
    rw [eo_n] at H2
    refine xo_g H2.y.1 (xo_b (goesOn_s H2 Qo) (fun _ h3 q => ?_))
    obtain ⟨w3, H3⟩ := q
    have e35 : xi h3 Y 35 = nI (sng S) := ((w2.trans w3).i (fun q => by unfold oY at q; omega)).trans c0.1.1
    refine xo_g H3.y.1 (xo_g H3.y.1 ?_)
    rw [e35]
    refine xo_b (newName_s (s9 := 0) H3 (RQ_n ws (by omega)) ws nm (by omega) (fun h' q => q.2.2.2.2.2 0 (by omega)) (fun z => ?_)) (fun _ h4 q => ?_)
    · have := of_decide_eq_false (ck_none z)
      show sng S < 6
      omega
    obtain ⟨w4, H4⟩ := q
    have wA : fW (yAll Y) noR h1 h4 := (fw_ya (S := S) (fw_oc (w2.trans w3))).trans (fw_yn (by omega) w4)
    have e35' : xi h4 Y 35 = nI (sng S) := (w4.i (fun q => by unfold nY oY at q; omega)).trans e35
    have eG : eGl B S t = eo (eo (ck (decide (sng S = 6)) 4 t) (eNm B S 0 (nx B t))) (eGk B S (nx B (nx B t))) := (eo_as _ _ _).symm
    rw [eG]
    generalize hE : eo (ck (decide (sng S = 6)) 4 t) (eNm B S 0 (nx B t)) = e4 at *
    -- behind the kind
    have fin : ∀ (h8 : XH), fW (yAll Y) noR h1 h8 → xi h8 Y 35 = nI (sng S) → RSy h8 Y B (eo e4 (eGk B S (nx B (nx B t)))) (tGk B (nx B (nx B t))) (fun h => (RQy h Y S T D ∧ RNn h Y S 0 (wdT B (nx B t))) ∧ SGr h Y (sng S) (gGk B S (nx B (nx B t)))) → xo (xg (xk h8 Y = 10) <| xg (xk h8 Y = 10) <| xjn (fun (v9 : Int32) (h10 : XH) => xb (FX9_flag E v9 h10) fun v11 h12 => xg (xk h12 Y = 10) <| xlt (yi h12 Y 35 ((xi h8 Y 35) + v11)) fun h13 => xv () h13) fun (j215 : Int32 → XH → XP Unit) => if ((xi h8 Y 25) : Int32) = 0 then (j215 1 h8) else (j215 0 h8)) (fun _ h' => LR h1 Y B (eo e4 (eGk B S (nx B (nx B t)))) (nGl B S T D t) h') := fun h8 w8 e8 H8 => by
      refine xo_g H8.y.1 (xo_g H8.y.1 (xo_jn ?_))
      generalize hF : eo e4 (eGk B S (nx B (nx B t))) = e9 at *
      cases e9 with
      | none =>
        obtain ⟨q1, q2, ⟨⟨q3, q4⟩, q5⟩⟩ := H8.2
        refine xo_t q1 (xo_eb (flag_v true) (xo_g H8.y.1 ?_))
        rw [e8, show bI true = (1 : Int32) from rfl, nI_s]
        refine xo_wi (fun h13 e13 => xo_v ⟨w8.trans (fw_i e13 (Or.inr (Or.inl ⟨rfl, by omega, by omega⟩))), RLy_fw H8.1 (A := fun a j => a = Y ∧ j = 35) (fw_i e13 ⟨rfl, rfl⟩) (fun a j q => by omega), (e_o e13 (Or.inr (by decide))).trans q1, ⟨q2.1, RTk_fw q2.2 (A := fun a j => a = Y ∧ j = 35) (fw_i e13 ⟨rfl, rfl⟩) (fun j _ _ q => by omega)⟩, RQ_g q3 ws e13 q4 q5⟩)
      | some er =>
        obtain ⟨⟨q1, q2, q3⟩, t', q4, q5⟩ := H8.2
        refine xo_f (fun z => by cases (H8.wr).mp z) (xo_eb (flag_v false) (xo_g H8.y.1 (xo_wi (fun h13 e13 => xo_v ⟨w8.trans (fw_i e13 (Or.inr (Or.inl ⟨rfl, by omega, by omega⟩))), RLy_fw H8.1 (A := fun a j => a = Y ∧ j = 35) (fw_i e13 ⟨rfl, rfl⟩) (fun a j q => by omega), ⟨⟨(e_o e13 (Or.inr (by decide))).trans q1.1, (e_o e13 (Or.inr (by decide))).trans q1.2⟩, q2, q3⟩, t', q4, RTk_fw q5 (A := fun a j => a = Y ∧ j = 35) (fw_i e13 ⟨rfl, rfl⟩) (fun j _ _ q => by omega)⟩))))
    cases e4 with
    | some er =>
      have ne := fun z => (by cases (H4.wr).mp z : False)
      have H4' : RSy h4 Y B (eo (some er) (eGk B S (nx B (nx B t)))) (tGk B (nx B (nx B t))) (fun h => (RQy h Y S T D ∧ RNn h Y S 0 (wdT B (nx B t))) ∧ SGr h Y (sng S) (gGk B S (nx B (nx B t)))) := H4
      refine xo_g H4.y.1 (xo_eb (isWord_w H4.1 ne 16) (xo_jh (fun h8 => fW (yAll Y) noR h1 h8 ∧ xi h8 Y 35 = nI (sng S) ∧ RSy h8 Y B (eo (some er) (eGk B S (nx B (nx B t)))) (tGk B (nx B (nx B t))) (fun h => (RQy h Y S T D ∧ RNn h Y S 0 (wdT B (nx B t))) ∧ SGr h Y (sng S) (gGk B S (nx B (nx B t))))) (fun h8 q => fin h8 q.1 q.2.1 q.2.2) (fun j198 jh => ?_)))
      refine xo_t rfl (xo_g H4.y.1 (xo_eb (isWord_w H4.1 ne 17) (xo_t rfl (xo_g H4.y.1 (xo_eb (isWord_w H4.1 ne 18) (xo_t rfl (xo_g H4.y.1 (xo_eb (isWord_w H4.1 ne 19) (xo_t rfl (xo_g H4.y.1 ?_))))))))))
      have Hs : RSy h4 Y B (some er) (nx B (nx B t)) (fun _ => True) := H4
      refine xo_b (fails_s Hs (fun _ _ _ _ => trivial) (code := 1) (by omega) (by omega)) (fun _ h5 q => jh _ ⟨wA.trans (fw_ya (S := S) (fw_oc q.1)), (q.1.i (fun q => by unfold oY at q; omega)).trans e35', q.2⟩)
    | none =>
      obtain ⟨hE1, hE2⟩ := eo_none hE
      have hg : sng S < 6 := by
        have := of_decide_eq_false (ck_none hE1)
        omega
      have wk2 := H4.2.2.1.1
      have kt2 := H4.2.2.1.2
      rw [eo_n] at fin ⊢
      have Q1o : StA (oY Y) (fun h => RQy h Y S T D ∧ RNn h Y S 0 (wdT B (nx B t))) := StA_o (Q1_c ws)
      refine xo_g H4.y.1 (xo_eb (isWord_v (c := 3) H4.1 wk2 kt2 H4.2.1 (by omega) (by omega)) (xo_jh (fun h8 => fW (yAll Y) noR h1 h8 ∧ xi h8 Y 35 = nI (sng S) ∧ RSy h8 Y B (eGk B S (nx B (nx B t))) (tGk B (nx B (nx B t))) (fun h => (RQy h Y S T D ∧ RNn h Y S 0 (wdT B (nx B t))) ∧ SGr h Y (sng S) (gGk B S (nx B (nx B t))))) (fun h8 q => fin h8 q.1 q.2.1 q.2.2) (fun j198 jh => ?_)))
      by_cases b3 : isW B (nx B (nx B t)) 3 = true
      · have tg : tGk B (nx B (nx B t)) = nx B (nx B (nx B (nx B t))) := by simp only [tGk, b3, ↓reduceIte, Bool.false_eq_true]
        have gg : gGk B S (nx B (nx B t)) = gCyc (vlT B (nx B (nx B (nx B t)))) := by simp only [gGk, b3, ↓reduceIte, Bool.false_eq_true]
        have eg : eGk B S (nx B (nx B t)) = eNu B 1 8 (nx B (nx B (nx B t))) := by simp only [eGk, b3, ↓reduceIte, Bool.false_eq_true]
        rw [b3]
        refine xo_f (by decide) (xo_g H4.y.1 (xo_b (goesOn_s H4 Q1o) (fun _ h5 q => ?_)))
        obtain ⟨w5, H5⟩ := q
        refine xo_g H5.y.1 (xo_b (takes_s (lo := 1) (hi := 8) H5 Q1o (by omega) (by omega)) (fun v h6 q => ?_))
        obtain ⟨w6, H6, ev⟩ := q
        rw [eo_n] at H6 ev
        have w56 := w5.trans w6
        have e6 : xi h6 Y 35 = nI (sng S) := (w56.i (fun q => by unfold oY at q; omega)).trans e35'
        cases hF : eNu B 1 8 (nx B (nx B (nx B t))) with
        | some er =>
          rw [hF] at H6
          unfold FX9_laysCyclic
          exact xo_g H6.y.1 (xo_b (xo_g H6.y.1 (xo_f (fun z => by cases (H6.wr).mp z) (xo_v (Q := fun _ h' => h' = h6) rfl))) (fun _ h7 z => by
            subst z
            exact jh _ ⟨wA.trans (fw_ya (S := S) (fw_oc w56)), e6, by rw [eg, hF]; exact ⟨H6.1, H6.2⟩⟩))
        | none =>
          obtain ⟨n1, n2, n3⟩ := eNu_0 hF
          rw [hF] at H6 ev
          rw [ev]
          refine xo_g H6.y.1 (xo_b (cycr_o (n := vlT B (nx B (nx B (nx B t)))) H6.y H6.2.1 e6 hg (by omega) n3) (fun _ h7 q => ?_))
          obtain ⟨w7, g7⟩ := q
          refine jh _ ⟨(wA.trans (fw_ya (S := S) (fw_oc w56))).trans (fw_ya (fw_lc hg w7)), (w7.i (fun q => by unfold lY at q; omega)).trans e6, ?_⟩
          rw [eg, tg, gg, hF]
          exact RSy_l H6 w7 (fun a j q => by unfold lY at q; omega) ⟨Q1_c ws _ _ (fw_lc hg w7) H6.2.2.2, g7⟩
      have b3 : isW B (nx B (nx B t)) 3 = false := by simpa using b3
      rw [b3]
      refine xo_t rfl (xo_g H4.y.1 (xo_eb (isWord_v (c := 4) H4.1 wk2 kt2 H4.2.1 (by omega) (by omega)) ?_))
      by_cases b4 : isW B (nx B (nx B t)) 4 = true
      · have tg : tGk B (nx B (nx B t)) = nx B (nx B (nx B (nx B t))) := by simp only [tGk, b3, b4, ↓reduceIte, Bool.false_eq_true]
        have gg : gGk B S (nx B (nx B t)) = gDih (vlT B (nx B (nx B (nx B t)))) := by simp only [gGk, b3, b4, ↓reduceIte, Bool.false_eq_true]
        have eg : eGk B S (nx B (nx B t)) = eNu B 3 4 (nx B (nx B (nx B t))) := by simp only [eGk, b3, b4, ↓reduceIte, Bool.false_eq_true]
        rw [b4]
        refine xo_f (by decide) (xo_g H4.y.1 (xo_b (goesOn_s H4 Q1o) (fun _ h5 q => ?_)))
        obtain ⟨w5, H5⟩ := q
        refine xo_g H5.y.1 (xo_b (takes_s (lo := 3) (hi := 4) H5 Q1o (by omega) (by omega)) (fun v h6 q => ?_))
        obtain ⟨w6, H6, ev⟩ := q
        rw [eo_n] at H6 ev
        have w56 := w5.trans w6
        have e6 : xi h6 Y 35 = nI (sng S) := (w56.i (fun q => by unfold oY at q; omega)).trans e35'
        cases hF : eNu B 3 4 (nx B (nx B (nx B t))) with
        | some er =>
          rw [hF] at H6
          unfold FX9_laysDihedral
          exact xo_g H6.y.1 (xo_b (xo_g H6.y.1 (xo_f (fun z => by cases (H6.wr).mp z) (xo_v (Q := fun _ h' => h' = h6) rfl))) (fun _ h7 z => by
            subst z
            exact jh _ ⟨wA.trans (fw_ya (S := S) (fw_oc w56)), e6, by rw [eg, hF]; exact ⟨H6.1, H6.2⟩⟩))
        | none =>
          obtain ⟨n1, n2, n3⟩ := eNu_0 hF
          rw [hF] at H6 ev
          rw [ev]
          refine xo_g H6.y.1 (xo_b (dihr_o (n := vlT B (nx B (nx B (nx B t)))) H6.y H6.2.1 e6 hg n2 n3) (fun _ h7 q => ?_))
          obtain ⟨w7, g7⟩ := q
          refine jh _ ⟨(wA.trans (fw_ya (S := S) (fw_oc w56))).trans (fw_ya (fw_lc hg w7)), (w7.i (fun q => by unfold lY at q; omega)).trans e6, ?_⟩
          rw [eg, tg, gg, hF]
          exact RSy_l H6 w7 (fun a j q => by unfold lY at q; omega) ⟨Q1_c ws _ _ (fw_lc hg w7) H6.2.2.2, g7⟩
      have b4 : isW B (nx B (nx B t)) 4 = false := by simpa using b4
      rw [b4]
      refine xo_t rfl (xo_g H4.y.1 (xo_eb (isWord_v (c := 5) H4.1 wk2 kt2 H4.2.1 (by omega) (by omega)) ?_))
      by_cases b5 : isW B (nx B (nx B t)) 5 = true
      · have tg : tGk B (nx B (nx B t)) = nx B (nx B (nx B t)) := by simp only [tGk, b3, b4, b5, ↓reduceIte, Bool.false_eq_true]
        have gg : gGk B S (nx B (nx B t)) = gQua := by simp only [gGk, b3, b4, b5, ↓reduceIte, Bool.false_eq_true]
        have eg : eGk B S (nx B (nx B t)) = none := by simp only [eGk, b3, b4, b5, ↓reduceIte, Bool.false_eq_true]
        rw [b5]
        refine xo_f (by decide) (xo_g H4.y.1 (xo_b (goesOn_s H4 Q1o) (fun _ h6 q => ?_)))
        obtain ⟨w56, H6⟩ := q
        have e6 : xi h6 Y 35 = nI (sng S) := (w56.i (fun q => by unfold oY at q; omega)).trans e35'
        refine xo_g H6.y.1 (xo_b (quar_o H6.y H6.2.1 e6 hg) (fun _ h7 q => ?_))
        obtain ⟨w7, g7⟩ := q
        refine jh _ ⟨(wA.trans (fw_ya (S := S) (fw_oc w56))).trans (fw_ya (fw_lc hg w7)), (w7.i (fun q => by unfold lY at q; omega)).trans e6, ?_⟩
        rw [eg, tg, gg]
        exact RSy_l H6 w7 (fun a j q => by unfold lY at q; omega) ⟨Q1_c ws _ _ (fw_lc hg w7) H6.2.2.2, g7⟩
      have b5 : isW B (nx B (nx B t)) 5 = false := by simpa using b5
      rw [b5]
      refine xo_t rfl (xo_g H4.y.1 (xo_eb (isWord_v (c := 6) H4.1 wk2 kt2 H4.2.1 (by omega) (by omega)) ?_))
      by_cases b6 : isW B (nx B (nx B t)) 6 = true
      · have tg : tGk B (nx B (nx B t)) = nx B (nx B (nx B (nx B (nx B t)))) := by simp only [tGk, b3, b4, b5, ↓reduceIte, Bool.false_eq_true]
        have gg : gGk B S (nx B (nx B t)) = gPro S (nmI S 0 (wdT B (nx B (nx B (nx B t))))) (nmI S 0 (wdT B (nx B (nx B (nx B (nx B t)))))) := by simp only [gGk, b3, b4, b5, ↓reduceIte, Bool.false_eq_true]
        have eg : eGk B S (nx B (nx B t)) = eo (eKn B S 0 (nx B (nx B (nx B t)))) (eo (eKn B S 0 (nx B (nx B (nx B (nx B t))))) (ck (decide (8 < sgn S (nmI S 0 (wdT B (nx B (nx B (nx B t))))) * sgn S (nmI S 0 (wdT B (nx B (nx B (nx B (nx B t)))))))) 4 (nx B (nx B (nx B (nx B t)))))) := by simp only [eGk, b3, b4, b5, b6, ↓reduceIte, Bool.false_eq_true]
        rw [b6]
        refine xo_f (by decide) (xo_g H4.y.1 (xo_b (goesOn_s H4 Q1o) (fun _ h5 q => ?_)))
        obtain ⟨w5, H5⟩ := q
        have e5 : xi h5 Y 35 = nI (sng S) := (w5.i (fun q => by unfold oY at q; omega)).trans e35'
        refine xo_g H5.y.1 (xo_g H5.y.1 ?_)
        rw [e5]
        refine xo_b (takesName_s (s := 0) H5 Q1o ws nm (by omega) (fun h' q => q.1.2.2.2.2.2 0 (by omega))) (fun v h6 q => ?_)
        obtain ⟨w6, H6, ev⟩ := q
        rw [eo_n] at H6 ev
        have w56 := w5.trans w6
        have e6 : xi h6 Y 35 = nI (sng S) := (w56.i (fun q => by unfold oY at q; omega)).trans e35'
        refine xo_g H6.y.1 (xo_g H6.y.1 ?_)
        rw [e6]
        refine xo_b (oldName_s (s := 0) H6 Q1o ws nm (by omega) (fun h' q => q.1.2.2.2.2.2 0 (by omega))) (fun v2 h7 q => ?_)
        obtain ⟨w7, H7, ev2⟩ := q
        have w57 := w56.trans w7
        have e7 : xi h7 Y 35 = nI (sng S) := (w57.i (fun q => by unfold oY at q; omega)).trans e35'
        rw [← eo_as] at eg
        generalize hF : eo (eKn B S 0 (nx B (nx B (nx B t)))) (eKn B S 0 (nx B (nx B (nx B (nx B t))))) = e9 at *
        -- from the check of the product on
        have fin2 : ∀ (v26 : Int32) (c : Bool) , (e9 = none → v26 = bI c ∧ c = decide (8 < sgn S (nmI S 0 (wdT B (nx B (nx B (nx B t))))) * sgn S (nmI S 0 (wdT B (nx B (nx B (nx B (nx B t)))))))) → xo (xg (xk h7 Y = 10) <| xb (FX9_failsIf E Y v26 4 h7) fun _ h28 => xg (xk h28 Y = 10) <| xb (FX9_goesOn E Y  h28) fun _ h29 => xg (xk h29 Y = 10) <| xjn (fun  (h30 : XH) => j198 h30) fun (j190 : XH → XP Unit) => if ((xi h29 Y 25) : Int32) = 0 then (xg (xk h29 Y = 10) <| xb (FX9_laysProduct E Y v v2 h29) fun _ h31 => j190 h31) else (j190 h29)) (fun _ h' => LR h1 Y B (eGk B S (nx B (nx B t))) (nGl B S T D t) h') := fun v26 c hv => by
          refine xo_g H7.y.1 (xo_b (failsIf_s (code := 4) (c := c) H7 Q1o (by omega) (by omega) (fun z => (hv z).1)) (fun _ h8 q => ?_))
          obtain ⟨w8, H8⟩ := q
          refine xo_g H8.y.1 (xo_b (goesOn_s H8 Q1o) (fun _ h9 q => ?_))
          obtain ⟨w9, H9⟩ := q
          have w59 := (w57.trans w8).trans w9
          have e9' : xi h9 Y 35 = nI (sng S) := (w59.i (fun q => by unfold oY at q; omega)).trans e35'
          have eg2 : eGk B S (nx B (nx B t)) = eo e9 (ck c 4 (nx B (nx B (nx B (nx B t))))) := by
            rw [eg]
            cases e9 with
            | none => rw [(hv rfl).2]
            | some er => rfl
          refine xo_g H9.y.1 (xo_jn ?_)
          cases hG : eo e9 (ck c 4 (nx B (nx B (nx B (nx B t))))) with
          | some er =>
            rw [hG] at H9
            exact xo_f (fun z => by cases (H9.wr).mp z) (jh _ ⟨wA.trans (fw_ya (S := S) (fw_oc w59)), e9', by rw [eg2, hG]; exact ⟨H9.1, H9.2⟩⟩)
          | none =>
            rw [hG] at H9
            obtain ⟨g1, g2⟩ := eo_none hG
            obtain ⟨g3, g4⟩ := hv g1
            rw [g1] at hF ev2
            obtain ⟨f1, f2⟩ := eo_none hF
            rw [f1] at ev
            have a0 : nmI S 0 (wdT B (nx B (nx B (nx B t)))) < sng S := (eKn_0 f1).2
            have b0 : nmI S 0 (wdT B (nx B (nx B (nx B (nx B t))))) < sng S := (eKn_0 f2).2
            have c8 := of_decide_eq_false (g4.symm.trans (ck_none g2))
            refine xo_t H9.2.1 (xo_g H9.y.1 ?_)
            have ev : v = nI (nmI S 0 (wdT B (nx B (nx B (nx B t))))) := ev
            have ev2 : v2 = nI (nmI S 0 (wdT B (nx B (nx B (nx B (nx B t)))))) := ev2
            rw [ev, ev2]
            refine xo_b (pror_o H9.y H9.2.2.2.1 ws hg a0 b0 (by omega)) (fun _ h10 q => ?_)
            obtain ⟨w10, g10⟩ := q
            refine jh _ ⟨(wA.trans (fw_ya (S := S) (fw_oc w59))).trans (fw_ya (fw_lc hg w10)), (w10.i (fun q => by unfold lY at q; omega)).trans e9', ?_⟩
            rw [eg2, tg, gg, hG]
            exact RSy_l H9 w10 (fun a j q => by unfold lY at q; omega) ⟨Q1_c ws _ _ (fw_lc hg w10) H9.2.2.2, g10⟩
        refine xo_g H7.y.1 (xo_jp (fun v26 h8 => h8 = h7 ∧ ∃ c, (e9 = none → v26 = bI c ∧ c = decide (8 < sgn S (nmI S 0 (wdT B (nx B (nx B (nx B t))))) * sgn S (nmI S 0 (wdT B (nx B (nx B (nx B (nx B t))))))))) (fun v26 h8 z => ?_) (fun j169 jh2 => ?_))
        · obtain ⟨rfl, c, hv⟩ := z
          exact fin2 v26 c hv
        · refine xo_jh (fun h8 => h8 = h7 ∧ (e9 = none → sgn S (nmI S 0 (wdT B (nx B (nx B (nx B t))))) * sgn S (nmI S 0 (wdT B (nx B (nx B (nx B (nx B t)))))) ≤ 8)) (fun h8 z => ?_) (fun j168 jh3 => ?_)
          · obtain ⟨rfl, z⟩ := z
            exact jh2 _ _ ⟨rfl, false, fun y => ⟨rfl, (decide_eq_false (by have := z y; omega)).symm⟩⟩
          · cases e9 with
            | some er => exact xo_f (fun z => by cases (H7.wr).mp z) (jh3 _ ⟨rfl, fun z => by cases z⟩)
            | none =>
              obtain ⟨f1, f2⟩ := eo_none hF
              rw [f1] at ev
              have a0 : nmI S 0 (wdT B (nx B (nx B (nx B t)))) < sng S := (eKn_0 f1).2
              have b0 : nmI S 0 (wdT B (nx B (nx B (nx B (nx B t))))) < sng S := (eKn_0 f2).2
              have ev : v = nI (nmI S 0 (wdT B (nx B (nx B (nx B t))))) := ev
              have ev2 : v2 = nI (nmI S 0 (wdT B (nx B (nx B (nx B (nx B t)))))) := ev2
              have c7 := H7.2.2.2.1
              have s1 := (c7.2.1 _ a0).1
              have s2 := (c7.2.1 _ b0).1
              have ga := ws.2.1 _ a0
              have gb := ws.2.1 _ b0
              have hm : sgn S (nmI S 0 (wdT B (nx B (nx B (nx B t))))) * sgn S (nmI S 0 (wdT B (nx B (nx B (nx B (nx B t)))))) ≤ 64 := Nat.le_trans (Nat.mul_le_mul ga.1.2 gb.1.2) (by decide)
              have pe : xi h7 (Y + 13) (nI (nmI S 0 (wdT B (nx B (nx B (nx B t)))))).toNatClampNeg * xi h7 (Y + 13) (nI (nmI S 0 (wdT B (nx B (nx B (nx B (nx B t))))))).toNatClampNeg = nI (sgn S (nmI S 0 (wdT B (nx B (nx B (nx B t))))) * sgn S (nmI S 0 (wdT B (nx B (nx B (nx B (nx B t))))))) := by rw [xz_nI (by omega), xz_nI (by omega), s1, s2, nI_m]
              refine xo_t H7.2.1 (xo_g H7.y.1 (xo_n H7.y.r13 ?_))
              subst ev
              subst ev2
              refine xo_g (H7.y.g13 (by omega)) (xo_g H7.y.1 (xo_n H7.y.r13 (xo_g (H7.y.g13 (by omega)) ?_)))
              by_cases c8 : sgn S (nmI S 0 (wdT B (nx B (nx B (nx B t))))) * sgn S (nmI S 0 (wdT B (nx B (nx B (nx B (nx B t)))))) ≤ 8
              · exact xo_t (by rw [pe, li8, nI_leP (by omega) (by omega)]; exact c8) (jh3 _ ⟨rfl, fun _ => c8⟩)
              · exact xo_f (by rw [pe, li8, nI_leP (by omega) (by omega)]; exact c8) (jh2 _ _ ⟨rfl, true, fun _ => ⟨rfl, (decide_eq_true (by omega)).symm⟩⟩)
      have b6 : isW B (nx B (nx B t)) 6 = false := by simpa using b6
      have eg : eGk B S (nx B (nx B t)) = some (1, tkA (nx B (nx B t))) := by simp only [eGk, b3, b4, b5, b6, ↓reduceIte, Bool.false_eq_true]
      rw [b6]
      refine xo_t rfl (xo_g H4.y.1 (xo_b (fails_s H4 Q1o (code := 1) (by omega) (by omega)) (fun _ h5 q => jh _ ⟨wA.trans (fw_ya (S := S) (fw_oc q.1)), (q.1.i (fun q => by unfold oY at q; omega)).trans e35', ?_⟩)))
      rw [eg]
      exact ⟨q.2.1, q.2.2⟩
  · by_cases c : sng S = 6
    · refine xo_t ?_ (jh _ _ ⟨rfl, ?_⟩)
      · rw [c0.1.1, c]; rfl
      · rw [decide_eq_true c]; rfl
    · refine xo_f ?_ (jh _ _ ⟨rfl, ?_⟩)
      · rw [c0.1.1, li6, nI_eqP (by omega) (by omega)]; exact c
      · rw [decide_eq_false c]; rfl
end RGR
