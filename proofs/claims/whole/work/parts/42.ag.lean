/-! Class and reference answer alike: groups, modules. -/
set_option linter.unusedVariables false
def AGx (X Y : Nat) (cm : Nat → Nat) (h : XH) (Z : ZD) (FC FM : XH → XP Int32) : Prop := ∃ (r : Int32 ⊕ Nat) (c : Nat) (u : Int32), xq (FC h) (fun r' h1 => r' = r ∧ iw (rXP X) h h1) ∧ (∀ h', YI h' Y Z → xo (FM h') (fun b h2 => b = u ∧ iw (rEq Y) (yi h' Y 0 (nI c)) h2)) ∧ ((∃ v, r = .inl v ∧ c = 0 ∧ v = u) ∨ ∃ e, r = .inr e ∧ e < 3 ∧ c = cm e ∧ 0 < c ∧ c < 100)
def cmS (e : Nat) : Nat := e + 1
def cmL (e : Nat) : Nat := e
def cmN (e : Nat) : Nat := if e = 0 then 1 else 2
def cmR (e : Nat) : Nat := if e = 1 then 1 else 2
/-- the code of an exception by the order in which the law's wrapper catches; 0: not caught -/
def cmT : List Nat → Nat → Nat
  | [], _ => 0
  | a :: l, e => if e = a then 1 else if cmT l e = 0 then 0 else cmT l e + 1
section AG
variable {E : XG} {h : XH} {X Y O : Nat} {Z : ZD} {cm : Nat → Nat} {FC FM : XH → XP Int32}
theorem AG_v (u : Int32) (hC : FC h = xv u h) (hM : ∀ h', YI h' Y Z → FM h' = xv u (yi h' Y 0 0)) : AGx X Y cm h Z FC FM :=
  ⟨.inl u, 0, u, ⟨_, _, hC, rfl, iw.refl _ _⟩, fun h' y => xo_e (hM h' y) ⟨rfl, iw.refl _ _⟩, Or.inl ⟨u, rfl, rfl, rfl⟩⟩
theorem AG_x (e c : Nat) (u : Int32) (hC : FC h = xx e h) (hM : ∀ h', YI h' Y Z → FM h' = xv u (yi h' Y 0 (nI c))) (he : e < 3 ∧ c = cm e ∧ 0 < c ∧ c < 100) : AGx X Y cm h Z FC FM :=
  ⟨.inr e, c, u, ⟨_, _, hC, rfl, iw.refl _ _⟩, fun h' y => xo_e (hM h' y) ⟨rfl, iw.refl _ _⟩, Or.inr ⟨e, rfl, he⟩⟩
theorem AG_o (u : Int32) (hC : xo (FC h) (fun v h1 => v = u ∧ iw (rXP X) h h1)) (hM : ∀ h', YI h' Y Z → xo (FM h') (fun b h2 => b = u ∧ iw (rEq Y) (yi h' Y 0 0) h2)) : AGx X Y cm h Z FC FM :=
  ⟨.inl u, 0, u, xq_o hC (fun v h1 q => ⟨by rw [q.1], q.2⟩), hM, Or.inl ⟨u, rfl, rfl, rfl⟩⟩
theorem AG_q (e c : Nat) (u : Int32) (hC : xq (FC h) (fun r h1 => r = .inr e ∧ iw (rXP X) h h1)) (hM : ∀ h', YI h' Y Z → xo (FM h') (fun b h2 => b = u ∧ iw (rEq Y) (yi h' Y 0 (nI c)) h2)) (he : e < 3 ∧ c = cm e ∧ 0 < c ∧ c < 100) : AGx X Y cm h Z FC FM :=
  ⟨.inr e, c, u, hC, hM, Or.inr ⟨e, rfl, he⟩⟩
theorem XI.rp {w s f : Nat} (x : XI h X w s f Z) {a : Nat} (q : rPW w a) : rXP X a := by
  rcases x.ws with e | e
  · left; rw [← e]; exact q
  · right; rw [← e]; exact q
theorem iw_th {h h2 : XH} {B : Nat → Prop} {a b : Int32} (w : iw B (yi h Y 0 a) h2) (hY : ¬ B Y) : iw B (yi h Y 0 b) (yi h2 Y 0 b) := by
  obtain ⟨g, rfl, hg⟩ := w
  refine ⟨fun c j => if c = Y ∧ j = 0 then b else g c j, rfl, fun c j hc => ?_⟩
  show (if c = Y ∧ j = 0 then b else g c j) = _
  by_cases e : c = Y ∧ j = 0
  · rw [if_pos e, xi_yi, if_pos e]
  · rw [if_neg e, hg c j hc, xi_yi, xi_yi, if_neg e, if_neg e]
theorem dT0b {β : Type} (h : XH) (f : Unit → XH → XP β) : xb (FX8_demandThere E 0 h) f = xx 1 h := rfl
theorem dT1b {β : Type} (h : XH) (f : Unit → XH → XP β) : xb (FX8_demandThere E 1 h) f = f () h := rfl
theorem dF0b {β : Type} (h : XH) (f : Unit → XH → XP β) : xb (FX8_demandFit E 0 h) f = xx 2 h := rfl
theorem dF1b {β : Type} (h : XH) (f : Unit → XH → XP β) : xb (FX8_demandFit E 1 h) f = f () h := rfl
theorem has_t {h : XH} {A n : Nat} {t : Nat → Nat → Nat} (hL : GL h A) (hT : GT h A n t) {a : Nat} (ha : a < n) : FX2_has E A (nI a) h = xv 1 h := by
  have := hT.2.2.1
  rw [FX2_has_v hL hT, inr_nI (by omega) ha]; rfl
theorem has_f {h : XH} {A n : Nat} {t : Nat → Nat → Nat} (hL : GL h A) (hT : GT h A n t) {q : Int32} (hq : inr q n = false) : FX2_has E A q h = xv 0 h := by
  rw [FX2_has_v hL hT, hq]; rfl
theorem ag_size (j : JJ h X Y O Z) (p : Int32) : AGx X Y (cmT [0, 1]) h Z (FX8_size E X p) (FX9_size E Y p) := by
  obtain ⟨z, -, -, ⟨w, s, f, x⟩, y⟩ := j
  have bn := x.ci.1.1.1
  cases hl : zld Z
  · refine AG_x 0 1 0 ?_ (fun h' y => ?_) (by decide)
    · unfold FX8_size
      rw [xg_t x.k, FX8_groupAt_0 x hl]
      first | rfl | (rw [xnn_e x.w5, xg_t x.k]; rfl)
    · unfold FX9_size
      simp (disch := omega) only [↓xg, ↓reduceIte, ↓xjn_d, ↓xlt_d, eq_self, and_self, and_true, true_and, not_true, not_false_iff, ne_eq, true_or, or_true, or_false, false_or, nI_s, nI_leP, nI_eqP, y.l.1, ↓xb_eq (FX9_noGroup_0 y hl p), i1_0, nI_0]
      try rfl
  · cases hp : inr p (sng (zS Z))
    · refine AG_x 1 2 0 ?_ (fun h' y => ?_) (by decide)
      · unfold FX8_size
        rw [xg_t x.k, FX8_groupAt_1 x hl hp]
        first | rfl | (rw [xnn_e x.w5, xg_t x.k]; rfl)
      · unfold FX9_size
        simp (disch := omega) only [↓xg, ↓reduceIte, ↓xjn_d, ↓xlt_d, eq_self, and_self, and_true, true_and, not_true, not_false_iff, ne_eq, true_or, or_true, or_false, false_or, nI_s, nI_leP, nI_eqP, y.l.1, ↓xb_eq (FX9_noGroup_1 y hl hp), i1_0]
        try rfl
    · obtain ⟨g, hk, rfl⟩ := inr_of (by omega) hp
      have G := x.ci.2.1.gt x.ci.1.1 hk
      have ga := (x.ci.1.1.2.1 g hk).2
      refine AG_v (nI (sgn (zS Z) g)) ?_ (fun h' y => ?_)
      · unfold FX8_size
        (try dsimp only); (rw [xg_t (x.k), xb_eq (FX8_groupAt_v x hl hk), xg_t (G.1.1), G.2.1.1])
      · have b := y.bg hk
        have y0 := y.t 0
        unfold FX9_size
        simp (disch := omega) only [↓xg, ↓reduceIte, ↓xjn_d, ↓xlt_d, eq_self, and_self, and_true, true_and, not_true, not_false_iff, ne_eq, true_or, or_true, or_false, false_or, nI_s, nI_leP, nI_eqP, y.l.1, ↓xb_eq (FX9_noGroup_v y hl hk), y0.l.1, ↓xnn_e (y0.l.r1), y0.l.k1, y0.l.n1, xin_t, xz_nI, (y0.1.1.yg hk).2.1]
theorem ag_inverse (j : JJ h X Y O Z) (p q : Int32) : AGx X Y (cmT [0, 1]) h Z (FX8_inverse E X p q) (FX9_inverse E Y p q) := by
  obtain ⟨z, -, -, ⟨w, s, f, x⟩, y⟩ := j
  have bn := x.ci.1.1.1
  cases hl : zld Z
  · refine AG_x 0 1 0 ?_ (fun h' y => ?_) (by decide)
    · unfold FX8_inverse
      rw [xg_t x.k, FX8_groupAt_0 x hl]
      first | rfl | (rw [xnn_e x.w5, xg_t x.k]; rfl)
    · unfold FX9_inverse
      simp (disch := omega) only [↓xg, ↓reduceIte, ↓xjn_d, ↓xlt_d, eq_self, and_self, and_true, true_and, not_true, not_false_iff, ne_eq, true_or, or_true, or_false, false_or, nI_s, nI_leP, nI_eqP, y.l.1, ↓xb_eq (FX9_noElement_0 y hl p q), i1_0, nI_0]
      try rfl
  · cases hp : inr p (sng (zS Z))
    · refine AG_x 1 2 0 ?_ (fun h' y => ?_) (by decide)
      · unfold FX8_inverse
        rw [xg_t x.k, FX8_groupAt_1 x hl hp]
        first | rfl | (rw [xnn_e x.w5, xg_t x.k]; rfl)
      · unfold FX9_inverse
        simp (disch := omega) only [↓xg, ↓reduceIte, ↓xjn_d, ↓xlt_d, eq_self, and_self, and_true, true_and, not_true, not_false_iff, ne_eq, true_or, or_true, or_false, false_or, nI_s, nI_leP, nI_eqP, y.l.1, ↓xb_eq (FX9_noElement_1 y hl hp q), i1_0]
        try rfl
    · obtain ⟨g, hk, rfl⟩ := inr_of (by omega) hp
      have G := x.ci.2.1.gt x.ci.1.1 hk
      have ga := (x.ci.1.1.2.1 g hk).2
      cases hq : inr q (sgn (zS Z) g)
      · refine AG_x 1 2 0 ?_ (fun h' y => ?_) (by decide)
        · unfold FX8_inverse
          (try dsimp only); (rw [xg_t (x.k), xb_eq (FX8_groupAt_v x hl hk), xg_t (G.1.1), xb_eq (FX2_has_v G.1 G.2.1 q), hq, FX8_demandThere_v])
          rfl
        · unfold FX9_inverse
          simp (disch := omega) only [↓xg, ↓reduceIte, ↓xjn_d, ↓xlt_d, eq_self, and_self, and_true, true_and, not_true, not_false_iff, ne_eq, true_or, or_true, or_false, false_or, nI_s, nI_leP, nI_eqP, y.l.1, ↓xb_eq (FX9_noElement_2 y hl hk hq), i1_0]
          try rfl
      · obtain ⟨a, ha, rfl⟩ := inr_of (by have := G.2.1.2.2.1; omega) hq
        refine AG_v (nI (sgv (zS Z) g a)) ?_ (fun h' y => ?_)
        · unfold FX8_inverse
          (try dsimp only); (rw [xg_t (x.k), xb_eq (FX8_groupAt_v x hl hk), xg_t (G.1.1), xb_eq (FX2_has_v G.1 G.2.1 (nI a)), hq, FX8_demandThere_v, if_pos rfl, xb_v, xg_t (G.1.1), xb_eq (FX2_opposite_v G.1 G.2.2 G.2.1.2.2.1 ha)])
        · have y0 := y.t 0
          unfold FX9_inverse
          simp (disch := omega) only [↓xg, ↓reduceIte, ↓xjn_d, ↓xlt_d, eq_self, and_self, and_true, true_and, not_true, not_false_iff, ne_eq, true_or, or_true, or_false, false_or, nI_s, nI_leP, nI_eqP, y.l.1, ↓xb_eq (FX9_noElement_v y hl hk ha), y0.l.1, ↓xb_eq (FX9_inverseOf_v y0.l (y0.1.1.yg hk) ga ha)]
theorem ag_orderOf (j : JJ h X Y O Z) (p q : Int32) : AGx X Y (cmT [0, 1]) h Z (FX8_orderOf E X p q) (FX9_orderOf E Y p q) := by
  obtain ⟨z, -, -, ⟨w, s, f, x⟩, y⟩ := j
  have bn := x.ci.1.1.1
  cases hl : zld Z
  · refine AG_x 0 1 0 ?_ (fun h' y => ?_) (by decide)
    · unfold FX8_orderOf
      rw [xg_t x.k, FX8_groupAt_0 x hl]
      first | rfl | (rw [xnn_e x.w5, xg_t x.k]; rfl)
    · unfold FX9_orderOf
      simp (disch := omega) only [↓xg, ↓reduceIte, ↓xjn_d, ↓xlt_d, eq_self, and_self, and_true, true_and, not_true, not_false_iff, ne_eq, true_or, or_true, or_false, false_or, nI_s, nI_leP, nI_eqP, y.l.1, ↓xb_eq (FX9_noElement_0 y hl p q), i1_0, nI_0]
      try rfl
  · cases hp : inr p (sng (zS Z))
    · refine AG_x 1 2 0 ?_ (fun h' y => ?_) (by decide)
      · unfold FX8_orderOf
        rw [xg_t x.k, FX8_groupAt_1 x hl hp]
        first | rfl | (rw [xnn_e x.w5, xg_t x.k]; rfl)
      · unfold FX9_orderOf
        simp (disch := omega) only [↓xg, ↓reduceIte, ↓xjn_d, ↓xlt_d, eq_self, and_self, and_true, true_and, not_true, not_false_iff, ne_eq, true_or, or_true, or_false, false_or, nI_s, nI_leP, nI_eqP, y.l.1, ↓xb_eq (FX9_noElement_1 y hl hp q), i1_0]
        try rfl
    · obtain ⟨g, hk, rfl⟩ := inr_of (by omega) hp
      have G := x.ci.2.1.gt x.ci.1.1 hk
      have ga := (x.ci.1.1.2.1 g hk).2
      cases hq : inr q (sgn (zS Z) g)
      · refine AG_x 1 2 0 ?_ (fun h' y => ?_) (by decide)
        · unfold FX8_orderOf
          (try dsimp only); (rw [xg_t (x.k), xb_eq (FX8_groupAt_v x hl hk), xg_t (G.1.1), xb_eq (FX2_has_v G.1 G.2.1 q), hq, FX8_demandThere_v])
          rfl
        · unfold FX9_orderOf
          simp (disch := omega) only [↓xg, ↓reduceIte, ↓xjn_d, ↓xlt_d, eq_self, and_self, and_true, true_and, not_true, not_false_iff, ne_eq, true_or, or_true, or_false, false_or, nI_s, nI_leP, nI_eqP, y.l.1, ↓xb_eq (FX9_noElement_2 y hl hk hq), i1_0]
          try rfl
      · obtain ⟨a, ha, rfl⟩ := inr_of (by have := G.2.1.2.2.1; omega) hq
        refine AG_v (nI (odS (sgt (zS Z) g) a)) ?_ (fun h' y => ?_)
        · unfold FX8_orderOf
          (try dsimp only); (rw [xg_t (x.k), xb_eq (FX8_groupAt_v x hl hk), xg_t (G.1.1), xb_eq (FX2_has_v G.1 G.2.1 (nI a)), hq, FX8_demandThere_v, if_pos rfl, xb_v, xg_t (G.1.1), xb_eq (FX2_period_v G.1 G.2.1 ha)])
        · have y0 := y.t 0
          unfold FX9_orderOf
          simp (disch := omega) only [↓xg, ↓reduceIte, ↓xjn_d, ↓xlt_d, eq_self, and_self, and_true, true_and, not_true, not_false_iff, ne_eq, true_or, or_true, or_false, false_or, nI_s, nI_leP, nI_eqP, y.l.1, ↓xb_eq (FX9_noElement_v y hl hk ha), y0.l.1, ↓xb_eq (FX9_orderIn_v y0.l (y0.1.1.yg hk) ga ha)]
theorem ag_times (j : JJ h X Y O Z) (p q r : Int32) : AGx X Y (cmT [0, 1]) h Z (FX8_times E X p q r) (FX9_times E Y p q r) := by
  obtain ⟨z, -, -, ⟨w, s, f, x⟩, y⟩ := j
  have bn := x.ci.1.1.1
  cases hl : zld Z
  · refine AG_x 0 1 0 ?_ (fun h' y => ?_) (by decide)
    · unfold FX8_times
      rw [xg_t x.k, FX8_groupAt_0 x hl]
      first | rfl | (rw [xnn_e x.w5, xg_t x.k]; rfl)
    · unfold FX9_times
      simp (disch := omega) only [↓xg, ↓reduceIte, ↓xjn_d, ↓xlt_d, eq_self, and_self, and_true, true_and, not_true, not_false_iff, ne_eq, true_or, or_true, or_false, false_or, nI_s, nI_leP, nI_eqP, y.l.1, ↓xb_eq (FX9_noElement_0 y hl p q), i1_0, nI_0]
      try rfl
  · cases hp : inr p (sng (zS Z))
    · refine AG_x 1 2 0 ?_ (fun h' y => ?_) (by decide)
      · unfold FX8_times
        rw [xg_t x.k, FX8_groupAt_1 x hl hp]
        first | rfl | (rw [xnn_e x.w5, xg_t x.k]; rfl)
      · unfold FX9_times
        simp (disch := omega) only [↓xg, ↓reduceIte, ↓xjn_d, ↓xlt_d, eq_self, and_self, and_true, true_and, not_true, not_false_iff, ne_eq, true_or, or_true, or_false, false_or, nI_s, nI_leP, nI_eqP, y.l.1, ↓xb_eq (FX9_noElement_1 y hl hp q), i1_0]
        try rfl
    · obtain ⟨g, hk, rfl⟩ := inr_of (by omega) hp
      have G := x.ci.2.1.gt x.ci.1.1 hk
      have ga := (x.ci.1.1.2.1 g hk).2
      cases hq : inr q (sgn (zS Z) g)
      · refine AG_x 1 2 0 ?_ (fun h' y => ?_) (by decide)
        · unfold FX8_times
          simp (disch := omega) only [↓xg, ↓reduceIte, ↓xjn_d, ↓xlt_d, eq_self, and_self, and_true, true_and, not_true, not_false_iff, ne_eq, true_or, or_true, or_false, false_or, nI_s, nI_leP, nI_eqP, x.k, ↓xb_eq (FX8_groupAt_v x hl hk), G.1.1, ↓xb_eq (has_f G.1 G.2.1 hq), ↓dT0b, ↓dT1b, ↓dF0b, ↓dF1b, i1_0]
        · unfold FX9_times
          simp (disch := omega) only [↓xg, ↓reduceIte, ↓xjn_d, ↓xlt_d, eq_self, and_self, and_true, true_and, not_true, not_false_iff, ne_eq, true_or, or_true, or_false, false_or, nI_s, nI_leP, nI_eqP, y.l.1, ↓xb_eq (FX9_noElement_2 y hl hk hq), i1_0]
          try rfl
      · obtain ⟨a, ha, rfl⟩ := inr_of (by have := G.2.1.2.2.1; omega) hq
        cases hr : inr r (sgn (zS Z) g)
        · refine AG_x 1 2 0 ?_ (fun h' y => ?_) (by decide)
          · unfold FX8_times
            simp (disch := omega) only [↓xg, ↓reduceIte, ↓xjn_d, ↓xlt_d, eq_self, and_self, and_true, true_and, not_true, not_false_iff, ne_eq, true_or, or_true, or_false, false_or, nI_s, nI_leP, nI_eqP, x.k, ↓xb_eq (FX8_groupAt_v x hl hk), G.1.1, ↓xb_eq (has_t G.1 G.2.1 ha), ↓xb_eq (has_f G.1 G.2.1 hr), ↓dT0b, ↓dT1b, ↓dF0b, ↓dF1b, i1_0]
          · have y0 := y.t 0
            unfold FX9_times
            simp (disch := omega) only [↓xg, ↓reduceIte, ↓xjn_d, ↓xlt_d, eq_self, and_self, and_true, true_and, not_true, not_false_iff, ne_eq, true_or, or_true, or_false, false_or, nI_s, nI_leP, nI_eqP, y.l.1, ↓xb_eq (FX9_noElement_v y hl hk ha), y0.l.1, ↓xb_eq (FX9_noElement_2 y0 hl hk hr), i1_0, yi_yi]
            try rfl
        · obtain ⟨b, hb, rfl⟩ := inr_of (by have := G.2.1.2.2.1; omega) hr
          refine AG_v (nI (sgt (zS Z) g a b)) ?_ (fun h' y => ?_)
          · unfold FX8_times
            simp (disch := omega) only [↓xg, ↓reduceIte, ↓xjn_d, ↓xlt_d, eq_self, and_self, and_true, true_and, not_true, not_false_iff, ne_eq, true_or, or_true, or_false, false_or, nI_s, nI_leP, nI_eqP, x.k, ↓xb_eq (FX8_groupAt_v x hl hk), G.1.1, ↓xb_eq (has_t G.1 G.2.1 ha), ↓xb_eq (has_t G.1 G.2.1 hb), ↓dT0b, ↓dT1b, ↓dF0b, ↓dF1b, i1_0, ↓xb_eq (FX2_product_v G.1 G.2.1 ha hb)]
          · have y0 := y.t 0
            have e2 := FX9_noElement_v (E := E) y0 hl hk hb
            rw [yi_yi] at e2
            unfold FX9_times
            simp (disch := omega) only [↓xg, ↓reduceIte, ↓xjn_d, ↓xlt_d, eq_self, and_self, and_true, true_and, not_true, not_false_iff, ne_eq, true_or, or_true, or_false, false_or, nI_s, nI_leP, nI_eqP, y.l.1, ↓xb_eq (FX9_noElement_v y hl hk ha), y0.l.1, ↓xb_eq (e2), ↓xb_eq (FX9_of_v y0.l (y0.1.1.yg hk) ha hb)]
theorem ag_centre (j : JJ h X Y O Z) (p : Int32) : AGx X Y (cmT [0, 1]) h Z (FX8_centre E X p) (FX9_centre E Y p) := by
  obtain ⟨z, -, -, ⟨w, s, f, x⟩, y⟩ := j
  have bn := x.ci.1.1.1
  cases hl : zld Z
  · refine AG_x 0 1 0 ?_ (fun h' y => ?_) (by decide)
    · unfold FX8_centre
      rw [xg_t x.k, FX8_groupAt_0 x hl]
      first | rfl | (rw [xnn_e x.w5, xg_t x.k]; rfl)
    · unfold FX9_centre
      simp (disch := omega) only [↓xg, ↓reduceIte, ↓xjn_d, ↓xlt_d, eq_self, and_self, and_true, true_and, not_true, not_false_iff, ne_eq, true_or, or_true, or_false, false_or, nI_s, nI_leP, nI_eqP, y.l.1, ↓xb_eq (FX9_noGroup_0 y hl p), i1_0, nI_0]
      try rfl
  · cases hp : inr p (sng (zS Z))
    · refine AG_x 1 2 0 ?_ (fun h' y => ?_) (by decide)
      · unfold FX8_centre
        rw [xg_t x.k, FX8_groupAt_1 x hl hp]
        first | rfl | (rw [xnn_e x.w5, xg_t x.k]; rfl)
      · unfold FX9_centre
        simp (disch := omega) only [↓xg, ↓reduceIte, ↓xjn_d, ↓xlt_d, eq_self, and_self, and_true, true_and, not_true, not_false_iff, ne_eq, true_or, or_true, or_false, false_or, nI_s, nI_leP, nI_eqP, y.l.1, ↓xb_eq (FX9_noGroup_1 y hl hp), i1_0]
        try rfl
    · obtain ⟨g, hk, rfl⟩ := inr_of (by omega) hp
      have G := x.ci.2.1.gt x.ci.1.1 hk
      have ga := (x.ci.1.1.2.1 g hk).2
      refine AG_v (cenS (sgn (zS Z) g) (sgt (zS Z) g)) ?_ (fun h' y => ?_)
      · unfold FX8_centre
        (try dsimp only); (rw [xg_t (x.k), xb_eq (FX8_groupAt_v x hl hk), xg_t (G.1.1), xb_eq (FX2_middle_v G.1 G.2.1)])
      · have y0 := y.t 0
        unfold FX9_centre
        simp (disch := omega) only [↓xg, ↓reduceIte, ↓xjn_d, ↓xlt_d, eq_self, and_self, and_true, true_and, not_true, not_false_iff, ne_eq, true_or, or_true, or_false, false_or, nI_s, nI_leP, nI_eqP, y.l.1, ↓xb_eq (FX9_noGroup_v y hl hk), y0.l.1, ↓xb_eq (FX9_centreOf_v y0.l (y0.1.1.yg hk))]
theorem cc_eq {n : Nat} {t : Nat → Nat → Nat} {v : Nat → Nat} (s : Int32) (m : Nat) : fld (fun c x => x ||| sh (t (t c m) (v c))) s n = s ||| cjS n t v m := by
  unfold cjS
  rw [← orF_e]
  induction n with
  | zero => rfl
  | succ n ih => rw [fld_s, ih, orF_s]
theorem or_sub {a b : Int32} (h : sub b a) : a ||| b = a := by
  refine sub_antisymm (fun k hk => ?_) sub_or
  rw [mb_or, Bool.or_eq_true] at hk
  rcases hk with q | q
  · exact q
  · exact h k q
/-- conjugates of conjugates -/
theorem cj_sub {n : Nat} {t : Nat → Nat → Nat} {v : Nat → Nat} (G : GA n t v) (hn : n ≤ 8) {a b : Nat} (ha : a < n) (h : mb (cjS n t v b) a = true) (hb : b < n) : sub (cjS n t v a) (cjS n t v b) := by
  intro k hk
  obtain ⟨c, hc, rfl⟩ := (cj_mb G.1 G.2.1 hn hb a).mp h
  obtain ⟨e, he, rfl⟩ := (cj_mb G.1 G.2.1 hn ha k).mp hk
  refine (cj_mb G.1 G.2.1 hn hb _).mpr ⟨t e c, G.cl he hc, ?_⟩
  have q1 := G.cl hc hb
  have q2 := G.iv hc
  have q3 := G.iv he
  have e1 : v (t e c) = t (v c) (v e) := by
    refine (G.vu (G.cl he hc) (G.cl q2 q3) ?_).symm
    rw [G.as he hc (G.cl q2 q3), ← G.as hc q2 q3, G.ir hc, G.ol q3, G.ir he]
  rw [e1, G.as he hc hb, ← G.as (G.cl he q1) q2 q3, G.as he q1 q2]
/-- the classes seen hold with an element its conjugates -/
theorem cc_inv {n : Nat} {t : Nat → Nat → Nat} {v : Nat → Nat} (G : GA n t v) (hn : n ≤ 8) : ∀ i, i ≤ n → ∀ a, a < n → mb (ccS n t v i).1 a = true → sub (cjS n t v a) (ccS n t v i).1 := by
  intro i
  induction i with
  | zero => intro _ a ha h; rw [show (ccS n t v 0).1 = 0 from rfl, mb_0] at h; cases h
  | succ i ih =>
    intro hi a ha h
    have e : ccS n t v (i + 1) = if mb (ccS n t v i).1 i then ccS n t v i else ((ccS n t v i).1 ||| cjS n t v i, (ccS n t v i).2 + 1) := rfl
    rw [e] at h ⊢
    by_cases hm : mb (ccS n t v i).1 i = true
    · rw [if_pos hm] at h ⊢
      exact ih (by omega) a ha h
    · rw [if_neg hm] at h ⊢
      have h : mb ((ccS n t v i).1 ||| cjS n t v i) a = true := h
      rw [mb_or, Bool.or_eq_true] at h
      rcases h with q | q
      · exact sub_trans (ih (by omega) a ha q) sub_or
      · exact sub_trans (cj_sub G hn ha q (by omega)) (fun k hk => by rw [mb_or, hk, Bool.or_true])
theorem ag_conjugacy (j : JJ h X Y O Z) (p : Int32) : AGx X Y (cmT [0, 1]) h Z (FX8_conjugacy E X p) (FX9_conjugacy E Y p) := by
  obtain ⟨z, -, -, ⟨w, s, f, x⟩, y⟩ := j
  have bn := x.ci.1.1.1
  cases hl : zld Z
  · refine AG_x 0 1 0 ?_ (fun h' y => ?_) (by decide)
    · unfold FX8_conjugacy
      rw [xg_t x.k, FX8_groupAt_0 x hl]
      first | rfl | (rw [xnn_e x.w5, xg_t x.k]; rfl)
    · unfold FX9_conjugacy
      simp (disch := omega) only [↓xg, ↓reduceIte, ↓xjn_d, ↓xlt_d, eq_self, and_self, and_true, true_and, not_true, not_false_iff, ne_eq, true_or, or_true, or_false, false_or, nI_s, nI_leP, nI_eqP, y.l.1, ↓xb_eq (FX9_noGroup_0 y hl p), i1_0, nI_0]
      try rfl
  · cases hp : inr p (sng (zS Z))
    · refine AG_x 1 2 0 ?_ (fun h' y => ?_) (by decide)
      · unfold FX8_conjugacy
        rw [xg_t x.k, FX8_groupAt_1 x hl hp]
        first | rfl | (rw [xnn_e x.w5, xg_t x.k]; rfl)
      · unfold FX9_conjugacy
        simp (disch := omega) only [↓xg, ↓reduceIte, ↓xjn_d, ↓xlt_d, eq_self, and_self, and_true, true_and, not_true, not_false_iff, ne_eq, true_or, or_true, or_false, false_or, nI_s, nI_leP, nI_eqP, y.l.1, ↓xb_eq (FX9_noGroup_1 y hl hp), i1_0]
        try rfl
    · obtain ⟨g, hk, rfl⟩ := inr_of (by omega) hp
      have G := x.ci.2.1.gt x.ci.1.1 hk
      have ga := (x.ci.1.1.2.1 g hk).2
      refine AG_v (nI (ccS (sgn (zS Z) g) (sgt (zS Z) g) (sgv (zS Z) g) (sgn (zS Z) g)).2) ?_ (fun h' y => ?_)
      · unfold FX8_conjugacy
        (try dsimp only); (rw [xg_t (x.k), xb_eq (FX8_groupAt_v x hl hk), xg_t (G.1.1), xb_eq (FX2_countConjugateClasses_v G.1 G.2.1 G.2.2)])
      · have y0 := y.t 0
        have b := y.bg hk
        have yg := y0.1.1.yg hk
        have rz : xi (yi h' Y 0 0) (Y + 1) (nI g).toNatClampNeg = nI (sgn (zS Z) g) := by rw [xz_nI (by omega)]; exact yg.2.1
        unfold FX9_conjugacy
        (try dsimp only); (rw [xg_t (y.l.1), xb_eq (FX9_noGroup_v y hl hk), if_pos rfl])
        generalize yi h' Y 0 0 = h2 at *
        refine xlp_all (fun i => ((ccS (sgn (zS Z) g) (sgt (zS Z) g) (sgv (zS Z) g) i).1, nI (ccS (sgn (zS Z) g) (sgt (zS Z) g) (sgv (zS Z) g) i).2, nI i)) (fun _ => h2) (sgn (zS Z) g) (by omega) (fun i hi ag => ?_) (fun ag => ?_)
        · have e : ccS (sgn (zS Z) g) (sgt (zS Z) g) (sgv (zS Z) g) (i + 1) = if mb (ccS (sgn (zS Z) g) (sgt (zS Z) g) (sgv (zS Z) g) i).1 i then ccS (sgn (zS Z) g) (sgt (zS Z) g) (sgv (zS Z) g) i else ((ccS (sgn (zS Z) g) (sgt (zS Z) g) (sgv (zS Z) g) i).1 ||| cjS (sgn (zS Z) g) (sgt (zS Z) g) (sgv (zS Z) g) i, (ccS (sgn (zS Z) g) (sgt (zS Z) g) (sgv (zS Z) g) i).2 + 1) := rfl
          have hinv := cc_inv ga b.2 i (by omega) i hi
          rw [e]
          generalize ccS (sgn (zS Z) g) (sgt (zS Z) g) (sgv (zS Z) g) i = cc at *
          (try dsimp only); (rw [xg_t (y0.l.1), xnn_e (y0.l.r1), xg_t (y0.l.g1 b.1), rz, if_neg (nI_ge hi (by omega)), xb_eq (FX9_has_v cc.1 (show i < 32 by omega)), xjn_d])
          have key : ∀ v9 : Int32, xlp (fun again48 (s48 : Int32 × Int32) h10 => xg (xk h10 Y = 10) <| xnn (xr h10 Y 5) fun w11 => xg (xk h10 w11 = 12 ∧ xin (nI g) (xn h10 w11)) <| if ((xi h10 w11 ((nI g) : Int32).toNatClampNeg) : Int32) ≤ s48.2 then (ag (s48.1, v9, (nI i + 1)) h10) else (xg (xk h10 Y = 10) <| xb (FX9_conjugateOf E Y (nI g) s48.2 (nI i) h10) fun v12 h13 => xlt (s48.1 ||| (1 <<< (v12 &&& 31))) fun v14 => again48 (v14, (s48.2 + 1)) h13)) xfu (cc.1, 0) h2 = ag (cc.1 ||| cjS (sgn (zS Z) g) (sgt (zS Z) g) (sgv (zS Z) g) i, v9, nI (i + 1)) h2 := fun v9 => by
            refine xlp_all (fun c => (fld (fun c x => x ||| sh (sgt (zS Z) g (sgt (zS Z) g c i) (sgv (zS Z) g c))) cc.1 c, nI c)) (fun _ => h2) (sgn (zS Z) g) (by omega) (fun c hc ag' => ?_) (fun ag' => ?_)
            · (try dsimp only); (rw [xg_t (y0.l.1), xnn_e (y0.l.r1), xg_t (y0.l.g1 b.1), rz, if_neg (nI_ge hc (by omega)), xg_t (y0.l.1), xb_eq (FX9_conjugateOf_v y0.l yg ga hc hi), xlt_d, nI_s, sh_d])
              rfl
            · (try dsimp only); (rw [xg_t (y0.l.1), xnn_e (y0.l.r1), xg_t (y0.l.g1 b.1), rz, if_pos (Int32.le_refl _), nI_s, cc_eq])
          cases hm : mb cc.1 i
          · rw [if_pos (show bI false = (0 : Int32) from rfl), if_neg (by decide)]
            refine (key _).trans ?_
            rw [show nI cc.2 + 1 = nI (cc.2 + 1) from nI_s _]
          · rw [if_neg (show ¬ bI true = (0 : Int32) by decide), if_pos rfl]
            refine (key _).trans ?_
            rw [or_1e, or_sub (hinv hm)]
        · (try dsimp only); (rw [xg_t (y0.l.1), xnn_e (y0.l.r1), xg_t (y0.l.g1 b.1), rz, if_pos (Int32.le_refl _)])
theorem ag_generated (j : JJ h X Y O Z) (p q : Int32) : AGx X Y (cmT [0, 1, 2]) h Z (FX8_generated E X p q) (FX9_generated E Y p q) := by
  obtain ⟨z, -, -, ⟨w, s, f, x⟩, y⟩ := j
  have bn := x.ci.1.1.1
  cases hl : zld Z
  · refine AG_x 0 1 0 ?_ (fun h' y => ?_) (by decide)
    · unfold FX8_generated
      rw [xg_t x.k, FX8_groupAt_0 x hl]
      first | rfl | (rw [xnn_e x.w5, xg_t x.k]; rfl)
    · unfold FX9_generated
      simp (disch := omega) only [↓xg, ↓reduceIte, ↓xjn_d, ↓xlt_d, eq_self, and_self, and_true, true_and, not_true, not_false_iff, ne_eq, true_or, or_true, or_false, false_or, nI_s, nI_leP, nI_eqP, y.l.1, ↓xb_eq (FX9_noSet_0 y hl p q), i1_0, nI_0]
      try rfl
  · cases hp : inr p (sng (zS Z))
    · refine AG_x 1 2 0 ?_ (fun h' y => ?_) (by decide)
      · unfold FX8_generated
        rw [xg_t x.k, FX8_groupAt_1 x hl hp]
        first | rfl | (rw [xnn_e x.w5, xg_t x.k]; rfl)
      · unfold FX9_generated
        simp (disch := omega) only [↓xg, ↓reduceIte, ↓xjn_d, ↓xlt_d, eq_self, and_self, and_true, true_and, not_true, not_false_iff, ne_eq, true_or, or_true, or_false, false_or, nI_s, nI_leP, nI_eqP, y.l.1, ↓xb_eq (FX9_noSet_1 y hl hp q), i1_0]
        try rfl
    · obtain ⟨g, hk, rfl⟩ := inr_of (by omega) hp
      have G := x.ci.2.1.gt x.ci.1.1 hk
      have ga := (x.ci.1.1.2.1 g hk).2
      cases hq : setS q (sgn (zS Z) g)
      · refine AG_x 2 3 0 ?_ (fun h' y => ?_) (by decide)
        · unfold FX8_generated
          (try dsimp only); (rw [xg_t (x.k), xb_eq (FX8_groupAt_v x hl hk), xg_t (G.1.1), xb_eq (FX2_hasAll_v G.1 G.2.1 q), hq, FX8_demandFit_v])
          rfl
        · unfold FX9_generated
          simp (disch := omega) only [↓xg, ↓reduceIte, ↓xjn_d, ↓xlt_d, eq_self, and_self, and_true, true_and, not_true, not_false_iff, ne_eq, true_or, or_true, or_false, false_or, nI_s, nI_leP, nI_eqP, y.l.1, ↓xb_eq (FX9_noSet_2 y hl hk hq), i1_0]
          try rfl
      · have qi := setS_in G.2.1.2.2.1 hq
        obtain ⟨u, e1, e2⟩ := FX2_closure_v (E := E) G.1 G.2.1 qi
        refine AG_v u ?_ (fun h' y => ?_)
        · unfold FX8_generated
          (try dsimp only); (rw [xg_t (x.k), xb_eq (FX8_groupAt_v x hl hk), xg_t (G.1.1), xb_eq (FX2_hasAll_v G.1 G.2.1 q), hq, FX8_demandFit_v, if_pos rfl, xb_v, xg_t (G.1.1), xb_eq (e1)])
        · have y0 := y.t 0
          obtain ⟨r, d1, d2, d3, d4, d5, d6⟩ := FX9_made_o (E := E) y0.l (y0.1.1.yg hk) ga false qi
          have er : r = u := lcl_one ⟨d2, d3, d4, fun r' z1 z2 => d6 r' z1 z2 (fun z => by cases z)⟩ e2
          rw [er] at d1
          have d1 : FX9_made E Y (nI g) q 0 (yi h' Y 0 0) = xv u (yi h' Y 0 0) := d1
          unfold FX9_generated
          simp (disch := omega) only [↓xg, ↓reduceIte, ↓xjn_d, ↓xlt_d, eq_self, and_self, and_true, true_and, not_true, not_false_iff, ne_eq, true_or, or_true, or_false, false_or, nI_s, nI_leP, nI_eqP, y.l.1, ↓xb_eq (FX9_noSet_v y hl hk hq), y0.l.1, ↓xb_eq (d1)]
theorem ag_normal (j : JJ h X Y O Z) (p q : Int32) : AGx X Y (cmT [0, 1, 2]) h Z (FX8_normal E X p q) (FX9_normal E Y p q) := by
  obtain ⟨z, -, -, ⟨w, s, f, x⟩, y⟩ := j
  have bn := x.ci.1.1.1
  cases hl : zld Z
  · refine AG_x 0 1 0 ?_ (fun h' y => ?_) (by decide)
    · unfold FX8_normal
      rw [xg_t x.k, FX8_groupAt_0 x hl]
      first | rfl | (rw [xnn_e x.w5, xg_t x.k]; rfl)
    · unfold FX9_normal
      simp (disch := omega) only [↓xg, ↓reduceIte, ↓xjn_d, ↓xlt_d, eq_self, and_self, and_true, true_and, not_true, not_false_iff, ne_eq, true_or, or_true, or_false, false_or, nI_s, nI_leP, nI_eqP, y.l.1, ↓xb_eq (FX9_noSet_0 y hl p q), i1_0, nI_0]
      try rfl
  · cases hp : inr p (sng (zS Z))
    · refine AG_x 1 2 0 ?_ (fun h' y => ?_) (by decide)
      · unfold FX8_normal
        rw [xg_t x.k, FX8_groupAt_1 x hl hp]
        first | rfl | (rw [xnn_e x.w5, xg_t x.k]; rfl)
      · unfold FX9_normal
        simp (disch := omega) only [↓xg, ↓reduceIte, ↓xjn_d, ↓xlt_d, eq_self, and_self, and_true, true_and, not_true, not_false_iff, ne_eq, true_or, or_true, or_false, false_or, nI_s, nI_leP, nI_eqP, y.l.1, ↓xb_eq (FX9_noSet_1 y hl hp q), i1_0]
        try rfl
    · obtain ⟨g, hk, rfl⟩ := inr_of (by omega) hp
      have G := x.ci.2.1.gt x.ci.1.1 hk
      have ga := (x.ci.1.1.2.1 g hk).2
      cases hq : setS q (sgn (zS Z) g)
      · refine AG_x 2 3 0 ?_ (fun h' y => ?_) (by decide)
        · unfold FX8_normal
          (try dsimp only); (rw [xg_t (x.k), xb_eq (FX8_groupAt_v x hl hk), xg_t (G.1.1), xb_eq (FX2_hasAll_v G.1 G.2.1 q), hq, FX8_demandFit_v])
          rfl
        · unfold FX9_normal
          simp (disch := omega) only [↓xg, ↓reduceIte, ↓xjn_d, ↓xlt_d, eq_self, and_self, and_true, true_and, not_true, not_false_iff, ne_eq, true_or, or_true, or_false, false_or, nI_s, nI_leP, nI_eqP, y.l.1, ↓xb_eq (FX9_noSet_2 y hl hk hq), i1_0]
          try rfl
      · have qi := setS_in G.2.1.2.2.1 hq
        obtain ⟨u, e1, e2⟩ := FX2_normalClosure_v (E := E) G.1 G.2.1 G.2.2 qi
        refine AG_v u ?_ (fun h' y => ?_)
        · unfold FX8_normal
          (try dsimp only); (rw [xg_t (x.k), xb_eq (FX8_groupAt_v x hl hk), xg_t (G.1.1), xb_eq (FX2_hasAll_v G.1 G.2.1 q), hq, FX8_demandFit_v, if_pos rfl, xb_v, xg_t (G.1.1), xb_eq (e1)])
        · have y0 := y.t 0
          obtain ⟨r, d1, d2, d3, d4, d5, d6⟩ := FX9_made_o (E := E) y0.l (y0.1.1.yg hk) ga true qi
          have er : r = u := lnl_one ⟨d2, d3, d4, d5 rfl, fun r' z1 z2 z3 => d6 r' z1 z2 (fun _ => z3)⟩ e2
          rw [er] at d1
          have d1 : FX9_made E Y (nI g) q 1 (yi h' Y 0 0) = xv u (yi h' Y 0 0) := d1
          unfold FX9_normal
          simp (disch := omega) only [↓xg, ↓reduceIte, ↓xjn_d, ↓xlt_d, eq_self, and_self, and_true, true_and, not_true, not_false_iff, ne_eq, true_or, or_true, or_false, false_or, nI_s, nI_leP, nI_eqP, y.l.1, ↓xb_eq (FX9_noSet_v y hl hk hq), y0.l.1, ↓xb_eq (d1)]
end AG
