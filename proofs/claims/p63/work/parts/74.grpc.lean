/-! The class reads groups. -/
set_option linter.unusedVariables false
theorem fmodg_v {E : XG} {h : XH} : ∀ n, n < 9 → 0 < n → ∀ a, a < 64 → FJ9_floorMod_7cf53 E (nI a) (nI n) h = xv (nI (a % n)) h := by
  intro n hn h0 a ha
  have z : ¬ nI n = (0 : Int32) := by rw [nI_eq0 (by omega)]; omega
  have h2 : ∀ n, n < 9 → ∀ a, a < 64 → (0 : Int32) ≤ (nI a ^^^ nI n) := by decide +kernel
  unfold FJ9_floorMod_7cf53
  rw [xg_t z, xlt_d, xjn_d, if_pos (h2 n hn a ha), rem_nI (by omega) h0 (by omega)]
theorem fmodm_v {E : XG} {h : XH} : ∀ n, n < 5 → 0 < n → ∀ i, i < n → ∀ j, j < n → FJ9_floorMod_7cf53 E (nI i - nI j) (nI n) h = xv (nI ((n + i - j) % n)) h := by
  intro n hn h0 i hi j hj
  have z : ¬ nI n = (0 : Int32) := by rw [nI_eq0 (by omega)]; omega
  have h2 : ∀ n, n < 5 → ∀ i, i < n → ∀ j, j < n → (if (0 : Int32) ≤ ((nI i - nI j) ^^^ nI n) then xrem (nI i - nI j) (nI n) else if xrem (nI i - nI j) (nI n) = 0 then xrem (nI i - nI j) (nI n) else xrem (nI i - nI j) (nI n) + nI n) = nI ((n + i - j) % n) := by decide +kernel
  have q := h2 n hn i hi j hj
  unfold FJ9_floorMod_7cf53
  rw [xg_t z, xlt_d, xjn_d]
  by_cases c : (0 : Int32) ≤ ((nI i - nI j) ^^^ nI n)
  · rw [if_pos c] at q ⊢
    rw [q]
  · rw [if_neg c] at q ⊢
    by_cases c2 : xrem (nI i - nI j) (nI n) = 0
    · rw [if_pos c2] at q ⊢
      rw [q]
    · rw [if_neg c2] at q ⊢
      rw [q]
theorem fdivg_v {E : XG} {h : XH} : ∀ n, n < 9 → 0 < n → ∀ a, a < 9 → FJ9_floorDiv_7cf53 E (nI a) (nI n) h = xv (nI (a / n)) h := by
  intro n hn h0 a ha
  have z : ¬ nI n = (0 : Int32) := by rw [nI_eq0 (by omega)]; omega
  have h2 : ∀ n, n < 9 → 0 < n → ∀ a, a < 9 → ((0 : Int32) ≤ (nI a ^^^ nI n)) ∧ nI a / nI n = nI (a / n) := by decide +kernel
  unfold FJ9_floorDiv_7cf53
  rw [xg_t z, xlt_d, xjn_d, if_pos (h2 n hn h0 a ha).1, (h2 n hn h0 a ha).2]
/-- two loops, one in the other -/
theorem grid_o {n : Nat} {N : Int32} {I : Nat → Nat → XH → Prop} {step : (Int32 → XH → XP Unit) → Int32 → Int32 → XH → XP Unit} {Q : Unit → XH → Prop} {h : XH} (hN : N = nI n) (hn : n < 100) (h0 : I 0 0 h) (hrow : ∀ i h, i < n → I i n h → I (i + 1) 0 h) (hst : ∀ i j h ag, i < n → j < n → I i j h → (∀ h', I i (j + 1) h' → xo (ag (nI j + 1) h') Q) → xo (step ag (nI i) (nI j) h) Q) (hend : ∀ h, I n 0 h → Q () h) :
    xo (xlp (fun ag7 (s7 : Int32) h2 => if (N : Int32) ≤ s7 then (xv () h2) else (xlp (fun ag14 (s14 : Int32) h3 => if (N : Int32) ≤ s14 then (ag7 (s7 + 1) h3) else (step ag14 s7 s14 h3)) xfu 0 h2)) xfu 0 h) Q := by
  subst hN
  refine xlp_inv (Po := fun m => xo m Q) (fun i s h' => s = nI i ∧ I i 0 h') n (by omega) (fun i s h' ag hi J again => ?_) ⟨rfl, h0⟩
  obtain ⟨rfl, J⟩ := J
  by_cases e : i = n
  · subst e
    exact xo_t (Int32.le_refl _) (xo_v (hend _ J))
  · have hlt : i < n := by omega
    refine xo_f (nI_ge hlt (by omega)) ?_
    refine xlp_inv (Po := fun m => xo m Q) (fun j s h' => s = nI j ∧ I i j h') n (by omega) (fun j s h2 ag2 hj J2 again2 => ?_) ⟨rfl, J⟩
    obtain ⟨rfl, J2⟩ := J2
    by_cases e2 : j = n
    · subst e2
      refine xo_t (Int32.le_refl _) ?_
      rw [nI_s]
      exact again hlt _ _ ⟨rfl, hrow i h2 hlt J2⟩
    · have hlj : j < n := by omega
      refine xo_f (nI_ge hlj (by omega)) (hst i j h2 ag2 hlt hlj J2 (fun h' q => ?_))
      rw [nI_s]
      exact again2 hlj _ _ ⟨rfl, q⟩
def gA (A : Nat) : Nat → Nat → Prop := fun a j => (a = A ∧ j = 3) ∨ a = A + 1
/-- products of the first i rows, and of j more -/
def TB (h : XH) (R o n i j : Nat) (t : Nat → Nat → Nat) : Prop := ∀ a b, a < n → b < n → (a < i ∨ (a = i ∧ b < j)) → xi h R (o + (8 * a + b)) = nI (t a b)
theorem TB_0 (h : XH) (R o n : Nat) (t : Nat → Nat → Nat) : TB h R o n 0 0 t := fun a b _ _ q => by omega
theorem TB_row {h : XH} {R o n i : Nat} {t : Nat → Nat → Nat} (q : TB h R o n i n t) : TB h R o n (i + 1) 0 t := fun a b ha hb z => q a b ha hb (by omega)
theorem TB_put {h h' : XH} {R o n i j : Nat} {t : Nat → Nat → Nat} (q : TB h R o n i j t) (hn : n ≤ 8) (hi : i < n) (hj : j < n) (e : h' = yi h R (o + (8 * i + j)) (nI (t i j))) : TB h' R o n i (j + 1) t := fun a b ha hb z => by
  by_cases c : a = i ∧ b = j
  · rw [c.1, c.2]; exact e_s e
  · rw [e_o e (Or.inr (by omega))]
    exact q a b ha hb (by omega)
theorem TB_all {h : XH} {R o n : Nat} {t : Nat → Nat → Nat} (q : TB h R o n n 0 t) : ∀ a b, a < n → b < n → xi h R (o + (8 * a + b)) = nI (t a b) := fun a b ha hb => q a b ha hb (Or.inl ha)
section GRC
variable {E : XG} {h h' : XH} {X W K P p i A : Nat} {B : BF} {t : TK} {S : SD} {T : ST} {D : Nat → Int32}
theorem GL.fw {A' R' : Nat → Nat → Prop} (l : GL h A) (w : fW A' R' h h') (q : ∀ j, ¬ R' A j) : GL h' A := by
  obtain ⟨l1, l2, l3, l4, l5, l6, l7⟩ := l
  exact ⟨(w.k _).trans l1, (w.r (q _)).trans l2, (w.k _).trans l3, (w.n _).trans l4, (w.r (q _)).trans l5, (w.k _).trans l6, (w.n _).trans l7⟩
theorem setProduct_v (l : GL h A) {a b : Nat} (ha : a < 8) (hb : b < 8) (v : Int32) : FX2_setProduct E A (nI a) (nI b) v h = xv () (yi h (A + 1) (8 * a + b) v) := by
  obtain ⟨l1, l2, l3, l4, l5, l6, l7⟩ := l
  unfold FX2_setProduct
  (try dsimp only); (rw [xlt_d, nI_8, xjn_d, if_neg (show ¬ nI (8 * a + b) < 0 by rw [nI_lt0 (by omega)]; exact id), xg_t (l1), xnn_e (l2), xg_t (l3), l4, if_neg (show ¬ Int32.ofNat 64 ≤ nI (8 * a + b) by rw [ofNat_nI, nI_leP (by omega) (by omega)]; omega), xg_t (l1), xnn_e (l2)])
  rw [xg_t ⟨l3, xin_nI (by omega) (by omega)⟩, xz_nI (by omega)]
  rfl
/-- a group made of g -/
def GQ (A : Nat) (g : GR) (h h' : XH) : Prop := fW (gA A) noR h h' ∧ xi h' A 3 = nI g.1 ∧ ∀ a b, a < g.1 → b < g.1 → xi h' (A + 1) (8 * a + b) = nI (g.2.1 a b)
theorem cyc_o (l : GL h A) {n : Nat} (h0 : 0 < n) (h8 : n ≤ 8) : xo (FX2_becomeCyclic E A (nI n) h) (fun _ h' => GQ A (gCyc n) h h') := by
  unfold FX2_becomeCyclic
  refine xo_g l.1 (xo_wi (fun h1 e1 => ?_))
  have w1 : fW (gA A) noR h h1 := fw_i e1 (Or.inl ⟨rfl, rfl⟩)
  refine grid_o (I := fun i j h' => (fW (gA A) noR h h' ∧ xi h' A 3 = nI n) ∧ TB h' (A + 1) 0 n i j (gCyc n).2.1) rfl (by omega) ⟨⟨w1, e_s e1⟩, TB_0 _ _ _ _ _⟩ (fun i h' _ q => ⟨q.1, TB_row q.2⟩) (fun i j h2 ag hi hj q again => ?_) (fun h2 q => ⟨q.1.1, q.1.2, fun a b ha hb => by
    have := TB_all q.2 a b ha hb
    rwa [Nat.zero_add] at this⟩)
  obtain ⟨⟨w2, q2⟩, q3⟩ := q
  have l2 := l.fw w2 (fun j z => z)
  rw [nI_a]
  refine xo_eb (fmodg_v n (by omega) h0 (i + j) (by omega)) (xo_g l2.1 (xo_eb (setProduct_v l2 (by omega) (by omega) _) (again _ ⟨⟨w2.trans (fw_i rfl (Or.inr rfl)), ?_⟩, TB_put q3 h8 hi hj ?_⟩)))
  · rw [xi_yi2 _ _ (Or.inl (by omega))]; exact q2
  · rw [Nat.zero_add]; rfl
theorem dih_o (l : GL h A) {n : Nat} (h3 : 3 ≤ n) (h4 : n ≤ 4) : xo (FX2_becomeDihedral E A (nI n) h) (fun _ h' => GQ A (gDih n) h h') := by
  unfold FX2_becomeDihedral
  refine xo_g l.1 (xo_wi (fun h1 e1 => ?_))
  have w1 : fW (gA A) noR h h1 := fw_i e1 (Or.inl ⟨rfl, rfl⟩)
  have a1 : xi h1 A 3 = nI (2 * n) := by rw [e_s e1, li2, nI_m]
  refine grid_o (I := fun i j h' => (fW (gA A) noR h h' ∧ xi h' A 3 = nI (2 * n)) ∧ ∀ a b, a < 2 * n → b < 2 * n → (a % n < i ∨ (a % n = i ∧ b % n < j)) → xi h' (A + 1) (8 * a + b) = nI ((gDih n).2.1 a b)) rfl (by omega) ⟨⟨w1, a1⟩, fun a b _ _ q => by omega⟩ (fun i h' hi q => ⟨q.1, fun a b ha hb z => q.2 a b ha hb (by have := Nat.mod_lt b (show 0 < n by omega); omega)⟩) (fun i j h2 ag hi hj q again => ?_) (fun h2 q => ⟨q.1.1, q.1.2, fun a b ha hb => q.2 a b ha hb (Or.inl (Nat.mod_lt a (by omega)))⟩)
  obtain ⟨⟨w2, q2⟩, q3⟩ := q
  have l2 := l.fw w2 (fun j z => z)
  rw [nI_a]
  refine xo_eb (fmodg_v n (by omega) (by omega) (i + j) (by omega)) (xo_eb (fmodm_v n (by omega) (by omega) i hi j hj) (xo_g l2.1 (xo_eb (setProduct_v l2 (by omega) (by omega) _) ?_)))
  obtain ⟨h5, e5⟩ : ∃ h5, h5 = yi h2 (A + 1) (8 * i + j) (nI ((i + j) % n)) := ⟨_, rfl⟩
  rw [← e5]
  have w5 : fW (gA A) noR h2 h5 := fw_i e5 (Or.inr rfl)
  have l5 := l2.fw w5 (fun j z => z)
  rw [nI_a, nI_a]
  refine xo_g l5.1 (xo_eb (setProduct_v l5 (by omega) (by omega) _) ?_)
  obtain ⟨h6, e6⟩ : ∃ h6, h6 = yi h5 (A + 1) (8 * i + (n + j)) (nI (n + (i + j) % n)) := ⟨_, rfl⟩
  rw [← e6]
  have w6 : fW (gA A) noR h5 h6 := fw_i e6 (Or.inr rfl)
  have l6 := l5.fw w6 (fun j z => z)
  rw [nI_a, nI_a]
  refine xo_g l6.1 (xo_eb (setProduct_v l6 (by omega) (by omega) _) ?_)
  obtain ⟨h7, e7⟩ : ∃ h7, h7 = yi h6 (A + 1) (8 * (n + i) + j) (nI (n + (n + i - j) % n)) := ⟨_, rfl⟩
  rw [← e7]
  have w7 : fW (gA A) noR h6 h7 := fw_i e7 (Or.inr rfl)
  have l7 := l6.fw w7 (fun j z => z)
  refine xo_g l7.1 (xo_eb (setProduct_v l7 (by omega) (by omega) _) ?_)
  obtain ⟨h8, e8⟩ : ∃ h8, h8 = yi h7 (A + 1) (8 * (n + i) + (n + j)) (nI ((n + i - j) % n)) := ⟨_, rfl⟩
  rw [← e8]
  have w8 : fW (gA A) noR h7 h8 := fw_i e8 (Or.inr rfl)
  have wA : fW (gA A) noR h2 h8 := ((w5.trans w6).trans w7).trans w8
  refine again h8 ⟨⟨w2.trans wA, ?_⟩, fun a b ha hb z => ?_⟩
  · rw [e_o e8 (Or.inl (by omega)), e_o e7 (Or.inl (by omega)), e_o e6 (Or.inl (by omega)), e_o e5 (Or.inl (by omega))]
    exact q2
  · have am : a % n = if a < n then a else a - n := by
      by_cases c : a < n
      · rw [if_pos c, Nat.mod_eq_of_lt c]
      · rw [if_neg c, Nat.mod_eq_sub_mod (by omega), Nat.mod_eq_of_lt (by omega)]
    have bm : b % n = if b < n then b else b - n := by
      by_cases c : b < n
      · rw [if_pos c, Nat.mod_eq_of_lt c]
      · rw [if_neg c, Nat.mod_eq_sub_mod (by omega), Nat.mod_eq_of_lt (by omega)]
    by_cases z2 : a % n = i ∧ b % n = j
    · obtain ⟨z3, z4⟩ := z2
      rw [am] at z3
      rw [bm] at z4
      show _ = nI (if a < n then (if b < n then (a + b) % n else n + (a + (b - n)) % n) else (if b < n then n + (a - b) % n else (a - (b - n)) % n))
      by_cases ca : a < n
      · rw [if_pos ca] at z3 ⊢
        by_cases cb : b < n
        · rw [if_pos cb] at z4 ⊢
          subst z3; subst z4
          rw [e_o e8 (Or.inr (by omega)), e_o e7 (Or.inr (by omega)), e_o e6 (Or.inr (by omega)), e_s e5]
        · rw [if_neg cb] at z4 ⊢
          have eb : b = n + j := by omega
          subst z3; subst eb
          rw [e_o e8 (Or.inr (by omega)), e_o e7 (Or.inr (by omega)), e_s e6, show n + j - n = j by omega]
      · rw [if_neg ca] at z3 ⊢
        have ea : a = n + i := by omega
        by_cases cb : b < n
        · rw [if_pos cb] at z4 ⊢
          subst ea; subst z4
          rw [e_o e8 (Or.inr (by omega)), e_s e7]
        · rw [if_neg cb] at z4 ⊢
          have eb : b = n + j := by omega
          subst ea; subst eb
          rw [e_s e8, show n + j - n = j by omega]
    · have ne : ∀ x y, x < 2 * n → y < 2 * n → (x % n = i ∧ y % n = j) → 8 * a + b ≠ 8 * x + y := fun x y hx hy z9 z8 => by
        have e1 : a = x := by omega
        have e2 : b = y := by omega
        exact z2 (by rw [e1, e2]; exact z9)
      have m1 : (n + i) % n = i := by rw [Nat.add_mod_left, Nat.mod_eq_of_lt hi]
      have m2 : (n + j) % n = j := by rw [Nat.add_mod_left, Nat.mod_eq_of_lt hj]
      have m3 := Nat.mod_eq_of_lt hi
      have m4 := Nat.mod_eq_of_lt hj
      rw [e_o e8 (Or.inr (ne _ _ (by omega) (by omega) ⟨m1, m2⟩)), e_o e7 (Or.inr (ne _ _ (by omega) (by omega) ⟨m1, m4⟩)), e_o e6 (Or.inr (ne _ _ (by omega) (by omega) ⟨m3, m2⟩)), e_o e5 (Or.inr (ne _ _ (by omega) (by omega) ⟨m3, m4⟩))]
      refine q3 a b ha hb ?_
      rcases z with z | z
      · exact Or.inl z
      · right
        refine ⟨z.1, ?_⟩
        have : ¬ b % n = j := fun y => z2 ⟨z.1, y⟩
        omega
def quI (p1 p2 : Int32) : Int32 := if p1 = 0 then p1 + p2 else if p2 = 0 then p1 + p2 else if p1 = p2 then 4 else if p1 = 1 ∧ p2 = 2 ∨ p1 = 2 ∧ p2 = 3 ∨ p1 = 3 ∧ p2 = 1 then (6 - p1) - p2 else 4 + ((6 - p1) - p2)
theorem units_v (p1 p2 : Int32) : FX2_productOfUnits E p1 p2 h = xv (quI p1 p2) h := by
  unfold FX2_productOfUnits quI
  simp only [xjn_d, xlt_d, i1_0, if_false, eq_self, if_true]
  by_cases c1 : p1 = 0
  · rw [if_pos c1, if_pos c1]
  rw [if_neg c1, if_neg c1]
  by_cases c2 : p2 = 0
  · rw [if_pos c2, if_pos c2]
  rw [if_neg c2, if_neg c2]
  by_cases c3 : p1 = p2
  · rw [if_pos c3, if_pos c3]
  rw [if_neg c3, if_neg c3]
  by_cases d1 : p1 = 1
  · subst d1
    by_cases d2 : p2 = 2
    · subst d2; rfl
    · simp [d2]
  · by_cases d3 : p1 = 2
    · subst d3
      by_cases d4 : p2 = 3
      · subst d4; rfl
      · simp [d4]
    · by_cases d5 : p1 = 3
      · subst d5
        by_cases d6 : p2 = 1
        · subst d6; rfl
        · simp [d6]
      · simp [d1, d3, d5]
theorem quI_e : ∀ a, a < 8 → ∀ b, b < 8 → (((nI a &&& 4) ^^^ (nI b &&& 4)) ^^^ quI (nI a &&& 3) (nI b &&& 3)) = nI (gQua.2.1 a b) := by decide +kernel
theorem qua_o (l : GL h A) : xo (FX2_becomeQuaternion E A h) (fun _ h' => GQ A gQua h h') := by
  unfold FX2_becomeQuaternion
  refine xo_g l.1 (xo_wi (fun h1 e1 => ?_))
  have w1 : fW (gA A) noR h h1 := fw_i e1 (Or.inl ⟨rfl, rfl⟩)
  refine grid_o (n := 8) (I := fun i j h' => (fW (gA A) noR h h' ∧ xi h' A 3 = nI 8) ∧ TB h' (A + 1) 0 8 i j gQua.2.1) rfl (by omega) ⟨⟨w1, e_s e1⟩, TB_0 _ _ _ _ _⟩ (fun i h' _ q => ⟨q.1, TB_row q.2⟩) (fun i j h2 ag hi hj q again => ?_) (fun h2 q => ⟨q.1.1, q.1.2, fun a b ha hb => by
    have := TB_all q.2 a b ha hb
    rwa [Nat.zero_add] at this⟩)
  obtain ⟨⟨w2, q2⟩, q3⟩ := q
  have l2 := l.fw w2 (fun j z => z)
  refine xo_eb (units_v _ _) (xo_g l2.1 (xo_eb (setProduct_v l2 (by omega) (by omega) _) (again _ ⟨⟨w2.trans (fw_i rfl (Or.inr rfl)), ?_⟩, TB_put q3 (by omega) hi hj ?_⟩)))
  · rw [xi_yi2 _ _ (Or.inl (by omega))]; exact q2
  · rw [Nat.zero_add, quI_e i hi j hj]
theorem pro_o {U V a b : Nat} (l : GL h A) (lu : GL h U) (lv : GL h V) (ga : (0 < sgn S a ∧ sgn S a ≤ 8) ∧ GA (sgn S a) (sgt S a) (sgv S a)) (gb : (0 < sgn S b ∧ sgn S b ≤ 8) ∧ GA (sgn S b) (sgt S b) (sgv S b)) (hu : xi h U 3 = nI (sgn S a) ∧ ∀ x y, x < sgn S a → y < sgn S a → xi h (U + 1) (8 * x + y) = nI (sgt S a x y)) (hv : xi h V 3 = nI (sgn S b) ∧ ∀ x y, x < sgn S b → y < sgn S b → xi h (V + 1) (8 * x + y) = nI (sgt S b x y)) (h8 : sgn S a * sgn S b ≤ 8) (au : U + 2 < A) (av : V + 2 < A) : xo (FX2_becomeProduct E A U V h) (fun _ h' => GQ A (gPro S a b) h h') := by
  have gp := gPro_ga ga.2 gb.2 ga.1.1 gb.1.1 h8
  unfold FX2_becomeProduct
  refine xo_g lv.1 (xo_lt (xo_g lu.1 (xo_g l.1 ?_)))
  rw [hu.1, hv.1, nI_m]
  refine xo_wi (fun h1 e1 => ?_)
  have w1 : fW (gA A) noR h h1 := fw_i e1 (Or.inl ⟨rfl, rfl⟩)
  generalize hN : sgn S a * sgn S b = N at *
  have eN : (gPro S a b).1 = N := hN
  refine xlp_inv (Po := fun m => xo m _) (fun i s h' => s = nI i ∧ (fW (gA A) noR h h' ∧ xi h' A 3 = nI N) ∧ TB h' (A + 1) 0 N i 0 (gPro S a b).2.1) N (by omega) (fun i s h' ag hi J again => ?_) ⟨rfl, ⟨w1, e_s e1⟩, TB_0 _ _ _ _ _⟩
  obtain ⟨rfl, ⟨w2, q2⟩, q3⟩ := J
  refine xo_g ((w2.k _).trans l.1) ?_
  rw [q2]
  by_cases e : i = N
  · subst e
    refine xo_t (Int32.le_refl _) (xo_v ⟨w2, by rw [eN]; exact q2, fun a' b' ha hb => ?_⟩)
    rw [eN] at ha hb
    have := TB_all q3 a' b' ha hb
    rwa [Nat.zero_add] at this
  · have hlt : i < N := by omega
    refine xo_f (nI_ge hlt (by omega)) ?_
    refine xlp_inv (Po := fun m => xo m _) (fun j s h' => s = nI j ∧ (fW (gA A) noR h h' ∧ xi h' A 3 = nI N) ∧ TB h' (A + 1) 0 N i j (gPro S a b).2.1) N (by omega) (fun j s h4 ag2 hj J2 again2 => ?_) ⟨rfl, ⟨w2, q2⟩, q3⟩
    obtain ⟨rfl, ⟨w4, q4⟩, q5⟩ := J2
    refine xo_g ((w4.k _).trans l.1) ?_
    rw [q4]
    by_cases e2 : j = N
    · subst e2
      refine xo_t (Int32.le_refl _) ?_
      rw [nI_s]
      exact again hlt _ _ ⟨rfl, ⟨w4, q4⟩, TB_row q5⟩
    · have hlj : j < N := by omega
      have hi2 := dm_of (n := sgn S b) (m := sgn S a) (x := i) (by omega)
      have hj2 := dm_of (n := sgn S b) (m := sgn S a) (x := j) (by omega)
      have l4 := l.fw w4 (fun j z => z)
      have lu4 := lu.fw w4 (fun j z => z)
      have lv4 := lv.fw w4 (fun j z => z)
      have tu : GT h4 U (sgn S a) (sgt S a) := ⟨(w4.i (fun z => by unfold gA at z; omega)).trans hu.1, ga.1.1, ga.1.2, fun x y hx hy => ⟨(w4.i (fun z => by unfold gA at z; omega)).trans (hu.2 x y hx hy), ga.2.cl hx hy⟩⟩
      have tv : GT h4 V (sgn S b) (sgt S b) := ⟨(w4.i (fun z => by unfold gA at z; omega)).trans hv.1, gb.1.1, gb.1.2, fun x y hx hy => ⟨(w4.i (fun z => by unfold gA at z; omega)).trans (hv.2 x y hx hy), gb.2.cl hx hy⟩⟩
      have b8 := gb.1.2
      refine xo_f (nI_ge hlj (by omega)) (xo_eb (fdivg_v _ (by omega) gb.1.1 i (by omega)) (xo_eb (fdivg_v _ (by omega) gb.1.1 j (by omega)) (xo_g lu4.1 (xo_eb (FX2_product_v lu4 tu hi2.1 hj2.1) (xo_eb (fmodg_v _ (by omega) gb.1.1 i (by omega)) (xo_eb (fmodg_v _ (by omega) gb.1.1 j (by omega)) (xo_g lv4.1 (xo_eb (FX2_product_v lv4 tv hi2.2 hj2.2) (xo_g l4.1 ?_)))))))))
      rw [nI_m, nI_a]
      refine xo_eb (setProduct_v l4 (by omega) (by omega) _) ?_
      rw [nI_s]
      refine again2 hlj _ _ ⟨rfl, ⟨w4.trans (fw_i rfl (Or.inr rfl)), ?_⟩, TB_put q5 h8 hlt hlj ?_⟩
      · rw [xi_yi2 _ _ (Or.inl (by omega))]; exact q4
      · rw [Nat.zero_add]; rfl
end GRC
