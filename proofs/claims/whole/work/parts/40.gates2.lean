/-! The reference's tests ahead of its calls. -/
set_option linter.unusedVariables false
section GATE
variable {E : XG} {h : XH} {X Y w s f : Nat} {Z : ZD}
theorem YI.cg (y : YI h Y Z) : xi h Y 2 = nI (sng (zS Z)) := y.1.1.2.1.1
theorem YI.cm (y : YI h Y Z) : xi h Y 3 = nI (snm (zS Z)) := y.1.1.2.1.2.1
theorem YI.ca (y : YI h Y Z) : xi h Y 4 = nI (sna (zS Z)) := y.1.1.2.1.2.2
theorem YI.ws (y : YI h Y Z) : WS (zS Z) := y.1.1.1.1
theorem FX9_noGroup_0 (y : YI h Y Z) (hl : zld Z = false) (p : Int32) : FX9_noGroup E Y p h = xv 1 (yi h Y 0 1) := by
  unfold FX9_noGroup
  simp (disch := omega) only [↓xg, ↓reduceIte, ↓xjn_d, ↓xlt_d, eq_self, and_self, and_true, true_and, not_true, not_false_iff, ne_eq, true_or, or_true, or_false, false_or, nI_s, nI_leP, nI_eqP, y.l.1, ↓xb_eq (FX9_notLoaded_0 y hl), i1_0]
theorem FX9_noGroup_1 (y : YI h Y Z) (hl : zld Z = true) {p : Int32} (hp : inr p (sng (zS Z)) = false) : FX9_noGroup E Y p h = xv 1 (yi h Y 0 2) := by
  have b := y.ws.1.1
  have u : FX9_in E p 0 (xi (yi h Y 0 0) Y 2 - 1) (yi h Y 0 0) = xv 0 (yi h Y 0 0) := by
    rw [(y.t 0).cg, FX9_in_v p (by omega), hp]; rfl
  unfold FX9_noGroup
  simp (disch := omega) only [↓xg, ↓reduceIte, ↓xjn_d, ↓xlt_d, eq_self, and_self, and_true, true_and, not_true, not_false_iff, ne_eq, true_or, or_true, or_false, false_or, nI_s, nI_leP, nI_eqP, y.l.1, ↓xb_eq (FX9_notLoaded_v y hl), (y.t 0).l.1, ↓xb_eq (u), ↓xb_eq (FX9_refuse_1 y.l (c := 2) (by decide)), i1_0]
theorem FX9_noGroup_v (y : YI h Y Z) (hl : zld Z = true) {k : Nat} (hk : k < sng (zS Z)) : FX9_noGroup E Y (nI k) h = xv 0 (yi h Y 0 0) := by
  have b := y.ws.1.1
  have u : FX9_in E (nI k) 0 (xi (yi h Y 0 0) Y 2 - 1) (yi h Y 0 0) = xv 1 (yi h Y 0 0) := by
    rw [(y.t 0).cg, FX9_in_v (nI k) (by omega), inr_nI (by omega) hk]; rfl
  unfold FX9_noGroup
  simp (disch := omega) only [↓xg, ↓reduceIte, ↓xjn_d, ↓xlt_d, eq_self, and_self, and_true, true_and, not_true, not_false_iff, ne_eq, true_or, or_true, or_false, false_or, nI_s, nI_leP, nI_eqP, y.l.1, ↓xb_eq (FX9_notLoaded_v y hl), (y.t 0).l.1, ↓xb_eq (u), ↓xb_eq (FX9_refuse_0 y.l 2), i1_0]
theorem FX9_noModule_0 (y : YI h Y Z) (hl : zld Z = false) (p : Int32) : FX9_noModule E Y p h = xv 1 (yi h Y 0 1) := by
  unfold FX9_noModule
  simp (disch := omega) only [↓xg, ↓reduceIte, ↓xjn_d, ↓xlt_d, eq_self, and_self, and_true, true_and, not_true, not_false_iff, ne_eq, true_or, or_true, or_false, false_or, nI_s, nI_leP, nI_eqP, y.l.1, ↓xb_eq (FX9_notLoaded_0 y hl), i1_0]
theorem FX9_noModule_1 (y : YI h Y Z) (hl : zld Z = true) {p : Int32} (hp : inr p (snm (zS Z)) = false) : FX9_noModule E Y p h = xv 1 (yi h Y 0 2) := by
  have b := y.ws.1.2.1
  have u : FX9_in E p 0 (xi (yi h Y 0 0) Y 3 - 1) (yi h Y 0 0) = xv 0 (yi h Y 0 0) := by
    rw [(y.t 0).cm, FX9_in_v p (by omega), hp]; rfl
  unfold FX9_noModule
  simp (disch := omega) only [↓xg, ↓reduceIte, ↓xjn_d, ↓xlt_d, eq_self, and_self, and_true, true_and, not_true, not_false_iff, ne_eq, true_or, or_true, or_false, false_or, nI_s, nI_leP, nI_eqP, y.l.1, ↓xb_eq (FX9_notLoaded_v y hl), (y.t 0).l.1, ↓xb_eq (u), ↓xb_eq (FX9_refuse_1 y.l (c := 2) (by decide)), i1_0]
theorem FX9_noModule_v (y : YI h Y Z) (hl : zld Z = true) {k : Nat} (hk : k < snm (zS Z)) : FX9_noModule E Y (nI k) h = xv 0 (yi h Y 0 0) := by
  have b := y.ws.1.2.1
  have u : FX9_in E (nI k) 0 (xi (yi h Y 0 0) Y 3 - 1) (yi h Y 0 0) = xv 1 (yi h Y 0 0) := by
    rw [(y.t 0).cm, FX9_in_v (nI k) (by omega), inr_nI (by omega) hk]; rfl
  unfold FX9_noModule
  simp (disch := omega) only [↓xg, ↓reduceIte, ↓xjn_d, ↓xlt_d, eq_self, and_self, and_true, true_and, not_true, not_false_iff, ne_eq, true_or, or_true, or_false, false_or, nI_s, nI_leP, nI_eqP, y.l.1, ↓xb_eq (FX9_notLoaded_v y hl), (y.t 0).l.1, ↓xb_eq (u), ↓xb_eq (FX9_refuse_0 y.l 2), i1_0]
theorem FX9_noArrow_0 (y : YI h Y Z) (hl : zld Z = false) (p : Int32) : FX9_noArrow E Y p h = xv 1 (yi h Y 0 1) := by
  unfold FX9_noArrow
  simp (disch := omega) only [↓xg, ↓reduceIte, ↓xjn_d, ↓xlt_d, eq_self, and_self, and_true, true_and, not_true, not_false_iff, ne_eq, true_or, or_true, or_false, false_or, nI_s, nI_leP, nI_eqP, y.l.1, ↓xb_eq (FX9_notLoaded_0 y hl), i1_0]
theorem FX9_noArrow_1 (y : YI h Y Z) (hl : zld Z = true) {p : Int32} (hp : inr p (sna (zS Z)) = false) : FX9_noArrow E Y p h = xv 1 (yi h Y 0 2) := by
  have b := y.ws.1.2.2
  have u : FX9_in E p 0 (xi (yi h Y 0 0) Y 4 - 1) (yi h Y 0 0) = xv 0 (yi h Y 0 0) := by
    rw [(y.t 0).ca, FX9_in_v p (by omega), hp]; rfl
  unfold FX9_noArrow
  simp (disch := omega) only [↓xg, ↓reduceIte, ↓xjn_d, ↓xlt_d, eq_self, and_self, and_true, true_and, not_true, not_false_iff, ne_eq, true_or, or_true, or_false, false_or, nI_s, nI_leP, nI_eqP, y.l.1, ↓xb_eq (FX9_notLoaded_v y hl), (y.t 0).l.1, ↓xb_eq (u), ↓xb_eq (FX9_refuse_1 y.l (c := 2) (by decide)), i1_0]
theorem FX9_noArrow_v (y : YI h Y Z) (hl : zld Z = true) {k : Nat} (hk : k < sna (zS Z)) : FX9_noArrow E Y (nI k) h = xv 0 (yi h Y 0 0) := by
  have b := y.ws.1.2.2
  have u : FX9_in E (nI k) 0 (xi (yi h Y 0 0) Y 4 - 1) (yi h Y 0 0) = xv 1 (yi h Y 0 0) := by
    rw [(y.t 0).ca, FX9_in_v (nI k) (by omega), inr_nI (by omega) hk]; rfl
  unfold FX9_noArrow
  simp (disch := omega) only [↓xg, ↓reduceIte, ↓xjn_d, ↓xlt_d, eq_self, and_self, and_true, true_and, not_true, not_false_iff, ne_eq, true_or, or_true, or_false, false_or, nI_s, nI_leP, nI_eqP, y.l.1, ↓xb_eq (FX9_notLoaded_v y hl), (y.t 0).l.1, ↓xb_eq (u), ↓xb_eq (FX9_refuse_0 y.l 2), i1_0]
theorem YI.bg (y : YI h Y Z) {g : Nat} (hg : g < sng (zS Z)) : g < 6 ∧ sgn (zS Z) g ≤ 8 := by
  have b := y.ws.1.1
  have := (y.ws.2.1 g hg).1.2
  omega
theorem YI.bm (y : YI h Y Z) {m : Nat} (hm : m < snm (zS Z)) : m < 6 ∧ smu (zS Z) m < 6 ∧ sml (zS Z) m < 6 ∧ nuS (zS Z) m ≤ 8 ∧ nlS2 (zS Z) m ≤ 8 := by
  have b := y.ws.1
  obtain ⟨q1, q2⟩ := y.ws.2.2.1 m hm
  have := (y.ws.2.1 _ q1).1.2
  have := (y.ws.2.1 _ q2).1.2
  unfold nuS nlS2
  omega
theorem YI.ba (y : YI h Y Z) {a : Nat} (ha : a < sna (zS Z)) : a < 8 ∧ saf (zS Z) a < snm (zS Z) ∧ sao (zS Z) a < snm (zS Z) := by
  have b := y.ws.1
  have := y.ws.2.2.2 a ha
  omega
theorem FX9_noElement_0 (y : YI h Y Z) (hl : zld Z = false) (p q : Int32) : FX9_noElement E Y p q h = xv 1 (yi h Y 0 1) := by
  unfold FX9_noElement
  simp (disch := omega) only [↓xg, ↓reduceIte, ↓xjn_d, ↓xlt_d, eq_self, and_self, and_true, true_and, not_true, not_false_iff, ne_eq, true_or, or_true, or_false, false_or, nI_s, nI_leP, nI_eqP, y.l.1, ↓xb_eq (FX9_noGroup_0 y hl p), i1_0]
theorem FX9_noElement_1 (y : YI h Y Z) (hl : zld Z = true) {p : Int32} (hp : inr p (sng (zS Z)) = false) (q : Int32) : FX9_noElement E Y p q h = xv 1 (yi h Y 0 2) := by
  unfold FX9_noElement
  simp (disch := omega) only [↓xg, ↓reduceIte, ↓xjn_d, ↓xlt_d, eq_self, and_self, and_true, true_and, not_true, not_false_iff, ne_eq, true_or, or_true, or_false, false_or, nI_s, nI_leP, nI_eqP, y.l.1, ↓xb_eq (FX9_noGroup_1 y hl hp), i1_0]
theorem FX9_noElement_2 (y : YI h Y Z) (hl : zld Z = true) {k : Nat} (hk : k < sng (zS Z)) {q : Int32} (hq : inr q (sgn (zS Z) k) = false) : FX9_noElement E Y (nI k) q h = xv 1 (yi h Y 0 2) := by
  have b := y.bg hk
  have y0 := y.t 0
  have yl := y0.l
  have r0 : xi (yi h Y 0 0) (Y + 1) (nI k).toNatClampNeg = nI (sgn (zS Z) k) := by rw [xz_nI (by omega)]; exact (y0.1.1.2.2.1.2.1 k hk).1
  have u : FX9_in E q 0 (xi (yi h Y 0 0) (Y + 1) (nI k).toNatClampNeg - 1) (yi h Y 0 0) = xv 0 (yi h Y 0 0) := by
    rw [r0, FX9_in_v q (by omega), hq]; rfl
  unfold FX9_noElement
  simp (disch := omega) only [↓xg, ↓reduceIte, ↓xjn_d, ↓xlt_d, eq_self, and_self, and_true, true_and, not_true, not_false_iff, ne_eq, true_or, or_true, or_false, false_or, nI_s, nI_leP, nI_eqP, y.l.1, ↓xb_eq (FX9_noGroup_v y hl hk), yl.1, ↓xnn_e (yl.r1), yl.k1, yl.n1, xin_t, ↓xb_eq (u), ↓xb_eq (FX9_refuse_1 y.l (c := 2) (by decide)), i1_0]
theorem FX9_noElement_v (y : YI h Y Z) (hl : zld Z = true) {k : Nat} (hk : k < sng (zS Z)) {j : Nat} (hj : j < sgn (zS Z) k) : FX9_noElement E Y (nI k) (nI j) h = xv 0 (yi h Y 0 0) := by
  have b := y.bg hk
  have y0 := y.t 0
  have yl := y0.l
  have r0 : xi (yi h Y 0 0) (Y + 1) (nI k).toNatClampNeg = nI (sgn (zS Z) k) := by rw [xz_nI (by omega)]; exact (y0.1.1.2.2.1.2.1 k hk).1
  have u : FX9_in E (nI j) 0 (xi (yi h Y 0 0) (Y + 1) (nI k).toNatClampNeg - 1) (yi h Y 0 0) = xv 1 (yi h Y 0 0) := by
    rw [r0, FX9_in_v (nI j) (by omega), inr_nI (by omega) hj]; rfl
  unfold FX9_noElement
  simp (disch := omega) only [↓xg, ↓reduceIte, ↓xjn_d, ↓xlt_d, eq_self, and_self, and_true, true_and, not_true, not_false_iff, ne_eq, true_or, or_true, or_false, false_or, nI_s, nI_leP, nI_eqP, y.l.1, ↓xb_eq (FX9_noGroup_v y hl hk), yl.1, ↓xnn_e (yl.r1), yl.k1, yl.n1, xin_t, ↓xb_eq (u), ↓xb_eq (FX9_refuse_0 y.l 2), i1_0]
theorem FX9_noUpper_0 (y : YI h Y Z) (hl : zld Z = false) (p q : Int32) : FX9_noUpper E Y p q h = xv 1 (yi h Y 0 1) := by
  unfold FX9_noUpper
  simp (disch := omega) only [↓xg, ↓reduceIte, ↓xjn_d, ↓xlt_d, eq_self, and_self, and_true, true_and, not_true, not_false_iff, ne_eq, true_or, or_true, or_false, false_or, nI_s, nI_leP, nI_eqP, y.l.1, ↓xb_eq (FX9_noModule_0 y hl p), i1_0]
theorem FX9_noUpper_1 (y : YI h Y Z) (hl : zld Z = true) {p : Int32} (hp : inr p (snm (zS Z)) = false) (q : Int32) : FX9_noUpper E Y p q h = xv 1 (yi h Y 0 2) := by
  unfold FX9_noUpper
  simp (disch := omega) only [↓xg, ↓reduceIte, ↓xjn_d, ↓xlt_d, eq_self, and_self, and_true, true_and, not_true, not_false_iff, ne_eq, true_or, or_true, or_false, false_or, nI_s, nI_leP, nI_eqP, y.l.1, ↓xb_eq (FX9_noModule_1 y hl hp), i1_0]
theorem FX9_noUpper_2 (y : YI h Y Z) (hl : zld Z = true) {k : Nat} (hk : k < snm (zS Z)) {q : Int32} (hq : inr q (nuS (zS Z) k) = false) : FX9_noUpper E Y (nI k) q h = xv 1 (yi h Y 0 2) := by
  have b := y.bm hk
  have y0 := y.t 0
  have yl := y0.l
  have r1 : xi (yi h Y 0 0) (Y + 3) (nI k).toNatClampNeg = nI (smu (zS Z) k) := by rw [xz_nI (by omega)]; exact (y0.1.1.2.2.1.2.2.1 k hk).1
  have r0 : xi (yi h Y 0 0) (Y + 1) (xi (yi h Y 0 0) (Y + 3) (nI k).toNatClampNeg).toNatClampNeg = nI (nuS (zS Z) k) := by rw [r1, xz_nI (by omega)]; exact (y0.1.1.2.2.1.2.1 _ (y.ws.2.2.1 k hk).1).1
  have u : FX9_in E q 0 (xi (yi h Y 0 0) (Y + 1) (xi (yi h Y 0 0) (Y + 3) (nI k).toNatClampNeg).toNatClampNeg - 1) (yi h Y 0 0) = xv 0 (yi h Y 0 0) := by
    rw [r0, FX9_in_v q (by omega), hq]; rfl
  unfold FX9_noUpper
  simp (disch := omega) only [↓xg, ↓reduceIte, ↓xjn_d, ↓xlt_d, eq_self, and_self, and_true, true_and, not_true, not_false_iff, ne_eq, true_or, or_true, or_false, false_or, nI_s, nI_leP, nI_eqP, y.l.1, ↓xb_eq (FX9_noModule_v y hl hk), yl.1, ↓xnn_e (yl.r1), ↓xnn_e (yl.r3), yl.k1, yl.k3, yl.n1, yl.n3, xin_t, r1, ↓xb_eq (u), ↓xb_eq (FX9_refuse_1 y.l (c := 2) (by decide)), i1_0]
theorem FX9_noUpper_v (y : YI h Y Z) (hl : zld Z = true) {k : Nat} (hk : k < snm (zS Z)) {j : Nat} (hj : j < nuS (zS Z) k) : FX9_noUpper E Y (nI k) (nI j) h = xv 0 (yi h Y 0 0) := by
  have b := y.bm hk
  have y0 := y.t 0
  have yl := y0.l
  have r1 : xi (yi h Y 0 0) (Y + 3) (nI k).toNatClampNeg = nI (smu (zS Z) k) := by rw [xz_nI (by omega)]; exact (y0.1.1.2.2.1.2.2.1 k hk).1
  have r0 : xi (yi h Y 0 0) (Y + 1) (xi (yi h Y 0 0) (Y + 3) (nI k).toNatClampNeg).toNatClampNeg = nI (nuS (zS Z) k) := by rw [r1, xz_nI (by omega)]; exact (y0.1.1.2.2.1.2.1 _ (y.ws.2.2.1 k hk).1).1
  have u : FX9_in E (nI j) 0 (xi (yi h Y 0 0) (Y + 1) (xi (yi h Y 0 0) (Y + 3) (nI k).toNatClampNeg).toNatClampNeg - 1) (yi h Y 0 0) = xv 1 (yi h Y 0 0) := by
    rw [r0, FX9_in_v (nI j) (by omega), inr_nI (by omega) hj]; rfl
  unfold FX9_noUpper
  simp (disch := omega) only [↓xg, ↓reduceIte, ↓xjn_d, ↓xlt_d, eq_self, and_self, and_true, true_and, not_true, not_false_iff, ne_eq, true_or, or_true, or_false, false_or, nI_s, nI_leP, nI_eqP, y.l.1, ↓xb_eq (FX9_noModule_v y hl hk), yl.1, ↓xnn_e (yl.r1), ↓xnn_e (yl.r3), yl.k1, yl.k3, yl.n1, yl.n3, xin_t, r1, ↓xb_eq (u), ↓xb_eq (FX9_refuse_0 y.l 2), i1_0]
theorem FX9_noLower_0 (y : YI h Y Z) (hl : zld Z = false) (p q : Int32) : FX9_noLower E Y p q h = xv 1 (yi h Y 0 1) := by
  unfold FX9_noLower
  simp (disch := omega) only [↓xg, ↓reduceIte, ↓xjn_d, ↓xlt_d, eq_self, and_self, and_true, true_and, not_true, not_false_iff, ne_eq, true_or, or_true, or_false, false_or, nI_s, nI_leP, nI_eqP, y.l.1, ↓xb_eq (FX9_noModule_0 y hl p), i1_0]
theorem FX9_noLower_1 (y : YI h Y Z) (hl : zld Z = true) {p : Int32} (hp : inr p (snm (zS Z)) = false) (q : Int32) : FX9_noLower E Y p q h = xv 1 (yi h Y 0 2) := by
  unfold FX9_noLower
  simp (disch := omega) only [↓xg, ↓reduceIte, ↓xjn_d, ↓xlt_d, eq_self, and_self, and_true, true_and, not_true, not_false_iff, ne_eq, true_or, or_true, or_false, false_or, nI_s, nI_leP, nI_eqP, y.l.1, ↓xb_eq (FX9_noModule_1 y hl hp), i1_0]
theorem FX9_noLower_2 (y : YI h Y Z) (hl : zld Z = true) {k : Nat} (hk : k < snm (zS Z)) {q : Int32} (hq : inr q (nlS2 (zS Z) k) = false) : FX9_noLower E Y (nI k) q h = xv 1 (yi h Y 0 2) := by
  have b := y.bm hk
  have y0 := y.t 0
  have yl := y0.l
  have r1 : xi (yi h Y 0 0) (Y + 4) (nI k).toNatClampNeg = nI (sml (zS Z) k) := by rw [xz_nI (by omega)]; exact (y0.1.1.2.2.1.2.2.1 k hk).2
  have r0 : xi (yi h Y 0 0) (Y + 1) (xi (yi h Y 0 0) (Y + 4) (nI k).toNatClampNeg).toNatClampNeg = nI (nlS2 (zS Z) k) := by rw [r1, xz_nI (by omega)]; exact (y0.1.1.2.2.1.2.1 _ (y.ws.2.2.1 k hk).2).1
  have u : FX9_in E q 0 (xi (yi h Y 0 0) (Y + 1) (xi (yi h Y 0 0) (Y + 4) (nI k).toNatClampNeg).toNatClampNeg - 1) (yi h Y 0 0) = xv 0 (yi h Y 0 0) := by
    rw [r0, FX9_in_v q (by omega), hq]; rfl
  unfold FX9_noLower
  simp (disch := omega) only [↓xg, ↓reduceIte, ↓xjn_d, ↓xlt_d, eq_self, and_self, and_true, true_and, not_true, not_false_iff, ne_eq, true_or, or_true, or_false, false_or, nI_s, nI_leP, nI_eqP, y.l.1, ↓xb_eq (FX9_noModule_v y hl hk), yl.1, ↓xnn_e (yl.r1), ↓xnn_e (yl.r4), yl.k1, yl.k4, yl.n1, yl.n4, xin_t, r1, ↓xb_eq (u), ↓xb_eq (FX9_refuse_1 y.l (c := 2) (by decide)), i1_0]
theorem FX9_noLower_v (y : YI h Y Z) (hl : zld Z = true) {k : Nat} (hk : k < snm (zS Z)) {j : Nat} (hj : j < nlS2 (zS Z) k) : FX9_noLower E Y (nI k) (nI j) h = xv 0 (yi h Y 0 0) := by
  have b := y.bm hk
  have y0 := y.t 0
  have yl := y0.l
  have r1 : xi (yi h Y 0 0) (Y + 4) (nI k).toNatClampNeg = nI (sml (zS Z) k) := by rw [xz_nI (by omega)]; exact (y0.1.1.2.2.1.2.2.1 k hk).2
  have r0 : xi (yi h Y 0 0) (Y + 1) (xi (yi h Y 0 0) (Y + 4) (nI k).toNatClampNeg).toNatClampNeg = nI (nlS2 (zS Z) k) := by rw [r1, xz_nI (by omega)]; exact (y0.1.1.2.2.1.2.1 _ (y.ws.2.2.1 k hk).2).1
  have u : FX9_in E (nI j) 0 (xi (yi h Y 0 0) (Y + 1) (xi (yi h Y 0 0) (Y + 4) (nI k).toNatClampNeg).toNatClampNeg - 1) (yi h Y 0 0) = xv 1 (yi h Y 0 0) := by
    rw [r0, FX9_in_v (nI j) (by omega), inr_nI (by omega) hj]; rfl
  unfold FX9_noLower
  simp (disch := omega) only [↓xg, ↓reduceIte, ↓xjn_d, ↓xlt_d, eq_self, and_self, and_true, true_and, not_true, not_false_iff, ne_eq, true_or, or_true, or_false, false_or, nI_s, nI_leP, nI_eqP, y.l.1, ↓xb_eq (FX9_noModule_v y hl hk), yl.1, ↓xnn_e (yl.r1), ↓xnn_e (yl.r4), yl.k1, yl.k4, yl.n1, yl.n4, xin_t, r1, ↓xb_eq (u), ↓xb_eq (FX9_refuse_0 y.l 2), i1_0]
theorem FX9_noTop_0 (y : YI h Y Z) (hl : zld Z = false) (p q : Int32) : FX9_noTop E Y p q h = xv 1 (yi h Y 0 1) := by
  unfold FX9_noTop
  simp (disch := omega) only [↓xg, ↓reduceIte, ↓xjn_d, ↓xlt_d, eq_self, and_self, and_true, true_and, not_true, not_false_iff, ne_eq, true_or, or_true, or_false, false_or, nI_s, nI_leP, nI_eqP, y.l.1, ↓xb_eq (FX9_noArrow_0 y hl p), i1_0]
theorem FX9_noTop_1 (y : YI h Y Z) (hl : zld Z = true) {p : Int32} (hp : inr p (sna (zS Z)) = false) (q : Int32) : FX9_noTop E Y p q h = xv 1 (yi h Y 0 2) := by
  unfold FX9_noTop
  simp (disch := omega) only [↓xg, ↓reduceIte, ↓xjn_d, ↓xlt_d, eq_self, and_self, and_true, true_and, not_true, not_false_iff, ne_eq, true_or, or_true, or_false, false_or, nI_s, nI_leP, nI_eqP, y.l.1, ↓xb_eq (FX9_noArrow_1 y hl hp), i1_0]
theorem FX9_noTop_2 (y : YI h Y Z) (hl : zld Z = true) {k : Nat} (hk : k < sna (zS Z)) {q : Int32} (hq : inr q (nuS (zS Z) (saf (zS Z) k)) = false) : FX9_noTop E Y (nI k) q h = xv 1 (yi h Y 0 2) := by
  have b := y.ba hk
  have b2 := y.bm b.2.1
  have y0 := y.t 0
  have yl := y0.l
  have r0 : FX9_uppers E Y (xi (yi h Y 0 0) (Y + 5) (nI k).toNatClampNeg) (yi h Y 0 0) = xv (nI (nuS (zS Z) (saf (zS Z) k))) (yi h Y 0 0) := by
    rw [xz_nI (by omega), (y0.1.1.ya hk).1.2.1]; exact FX9_uppers_v (y0.1.1.ym b.2.1)
  have u : FX9_in E q 0 (nI (nuS (zS Z) (saf (zS Z) k)) - 1) (yi h Y 0 0) = xv 0 (yi h Y 0 0) := by
    rw [FX9_in_v q (by omega), hq]; rfl
  unfold FX9_noTop
  simp (disch := omega) only [↓xg, ↓reduceIte, ↓xjn_d, ↓xlt_d, eq_self, and_self, and_true, true_and, not_true, not_false_iff, ne_eq, true_or, or_true, or_false, false_or, nI_s, nI_leP, nI_eqP, y.l.1, ↓xb_eq (FX9_noArrow_v y hl hk), yl.1, ↓xnn_e (yl.r5), yl.k5, yl.n5, xin_t, ↓xb_eq (r0), ↓xb_eq (u), ↓xb_eq (FX9_refuse_1 y.l (c := 2) (by decide)), i1_0]
theorem FX9_noTop_v (y : YI h Y Z) (hl : zld Z = true) {k : Nat} (hk : k < sna (zS Z)) {j : Nat} (hj : j < nuS (zS Z) (saf (zS Z) k)) : FX9_noTop E Y (nI k) (nI j) h = xv 0 (yi h Y 0 0) := by
  have b := y.ba hk
  have b2 := y.bm b.2.1
  have y0 := y.t 0
  have yl := y0.l
  have r0 : FX9_uppers E Y (xi (yi h Y 0 0) (Y + 5) (nI k).toNatClampNeg) (yi h Y 0 0) = xv (nI (nuS (zS Z) (saf (zS Z) k))) (yi h Y 0 0) := by
    rw [xz_nI (by omega), (y0.1.1.ya hk).1.2.1]; exact FX9_uppers_v (y0.1.1.ym b.2.1)
  have u : FX9_in E (nI j) 0 (nI (nuS (zS Z) (saf (zS Z) k)) - 1) (yi h Y 0 0) = xv 1 (yi h Y 0 0) := by
    rw [FX9_in_v (nI j) (by omega), inr_nI (by omega) hj]; rfl
  unfold FX9_noTop
  simp (disch := omega) only [↓xg, ↓reduceIte, ↓xjn_d, ↓xlt_d, eq_self, and_self, and_true, true_and, not_true, not_false_iff, ne_eq, true_or, or_true, or_false, false_or, nI_s, nI_leP, nI_eqP, y.l.1, ↓xb_eq (FX9_noArrow_v y hl hk), yl.1, ↓xnn_e (yl.r5), yl.k5, yl.n5, xin_t, ↓xb_eq (r0), ↓xb_eq (u), ↓xb_eq (FX9_refuse_0 y.l 2), i1_0]
theorem FX9_noBottom_0 (y : YI h Y Z) (hl : zld Z = false) (p q : Int32) : FX9_noBottom E Y p q h = xv 1 (yi h Y 0 1) := by
  unfold FX9_noBottom
  simp (disch := omega) only [↓xg, ↓reduceIte, ↓xjn_d, ↓xlt_d, eq_self, and_self, and_true, true_and, not_true, not_false_iff, ne_eq, true_or, or_true, or_false, false_or, nI_s, nI_leP, nI_eqP, y.l.1, ↓xb_eq (FX9_noArrow_0 y hl p), i1_0]
theorem FX9_noBottom_1 (y : YI h Y Z) (hl : zld Z = true) {p : Int32} (hp : inr p (sna (zS Z)) = false) (q : Int32) : FX9_noBottom E Y p q h = xv 1 (yi h Y 0 2) := by
  unfold FX9_noBottom
  simp (disch := omega) only [↓xg, ↓reduceIte, ↓xjn_d, ↓xlt_d, eq_self, and_self, and_true, true_and, not_true, not_false_iff, ne_eq, true_or, or_true, or_false, false_or, nI_s, nI_leP, nI_eqP, y.l.1, ↓xb_eq (FX9_noArrow_1 y hl hp), i1_0]
theorem FX9_noBottom_2 (y : YI h Y Z) (hl : zld Z = true) {k : Nat} (hk : k < sna (zS Z)) {q : Int32} (hq : inr q (nlS2 (zS Z) (saf (zS Z) k)) = false) : FX9_noBottom E Y (nI k) q h = xv 1 (yi h Y 0 2) := by
  have b := y.ba hk
  have b2 := y.bm b.2.1
  have y0 := y.t 0
  have yl := y0.l
  have r0 : FX9_lowers E Y (xi (yi h Y 0 0) (Y + 5) (nI k).toNatClampNeg) (yi h Y 0 0) = xv (nI (nlS2 (zS Z) (saf (zS Z) k))) (yi h Y 0 0) := by
    rw [xz_nI (by omega), (y0.1.1.ya hk).1.2.1]; exact FX9_lowers_v (y0.1.1.ym b.2.1)
  have u : FX9_in E q 0 (nI (nlS2 (zS Z) (saf (zS Z) k)) - 1) (yi h Y 0 0) = xv 0 (yi h Y 0 0) := by
    rw [FX9_in_v q (by omega), hq]; rfl
  unfold FX9_noBottom
  simp (disch := omega) only [↓xg, ↓reduceIte, ↓xjn_d, ↓xlt_d, eq_self, and_self, and_true, true_and, not_true, not_false_iff, ne_eq, true_or, or_true, or_false, false_or, nI_s, nI_leP, nI_eqP, y.l.1, ↓xb_eq (FX9_noArrow_v y hl hk), yl.1, ↓xnn_e (yl.r5), yl.k5, yl.n5, xin_t, ↓xb_eq (r0), ↓xb_eq (u), ↓xb_eq (FX9_refuse_1 y.l (c := 2) (by decide)), i1_0]
theorem FX9_noBottom_v (y : YI h Y Z) (hl : zld Z = true) {k : Nat} (hk : k < sna (zS Z)) {j : Nat} (hj : j < nlS2 (zS Z) (saf (zS Z) k)) : FX9_noBottom E Y (nI k) (nI j) h = xv 0 (yi h Y 0 0) := by
  have b := y.ba hk
  have b2 := y.bm b.2.1
  have y0 := y.t 0
  have yl := y0.l
  have r0 : FX9_lowers E Y (xi (yi h Y 0 0) (Y + 5) (nI k).toNatClampNeg) (yi h Y 0 0) = xv (nI (nlS2 (zS Z) (saf (zS Z) k))) (yi h Y 0 0) := by
    rw [xz_nI (by omega), (y0.1.1.ya hk).1.2.1]; exact FX9_lowers_v (y0.1.1.ym b.2.1)
  have u : FX9_in E (nI j) 0 (nI (nlS2 (zS Z) (saf (zS Z) k)) - 1) (yi h Y 0 0) = xv 1 (yi h Y 0 0) := by
    rw [FX9_in_v (nI j) (by omega), inr_nI (by omega) hj]; rfl
  unfold FX9_noBottom
  simp (disch := omega) only [↓xg, ↓reduceIte, ↓xjn_d, ↓xlt_d, eq_self, and_self, and_true, true_and, not_true, not_false_iff, ne_eq, true_or, or_true, or_false, false_or, nI_s, nI_leP, nI_eqP, y.l.1, ↓xb_eq (FX9_noArrow_v y hl hk), yl.1, ↓xnn_e (yl.r5), yl.k5, yl.n5, xin_t, ↓xb_eq (r0), ↓xb_eq (u), ↓xb_eq (FX9_refuse_0 y.l 2), i1_0]
theorem FX9_notLawful_0 (y : YI h Y Z) (hl : zld Z = false) (p : Int32) : FX9_notLawful E Y p h = xv 1 (yi h Y 0 1) := by
  unfold FX9_notLawful
  simp (disch := omega) only [↓xg, ↓reduceIte, ↓xjn_d, ↓xlt_d, eq_self, and_self, and_true, true_and, not_true, not_false_iff, ne_eq, true_or, or_true, or_false, false_or, nI_s, nI_leP, nI_eqP, y.l.1, ↓xb_eq (FX9_noModule_0 y hl p), i1_0]
theorem FX9_notLawful_1 (y : YI h Y Z) (hl : zld Z = true) {p : Int32} (hp : inr p (snm (zS Z)) = false) : FX9_notLawful E Y p h = xv 1 (yi h Y 0 2) := by
  unfold FX9_notLawful
  simp (disch := omega) only [↓xg, ↓reduceIte, ↓xjn_d, ↓xlt_d, eq_self, and_self, and_true, true_and, not_true, not_false_iff, ne_eq, true_or, or_true, or_false, false_or, nI_s, nI_leP, nI_eqP, y.l.1, ↓xb_eq (FX9_noModule_1 y hl hp), i1_0]
theorem YI.why (y : YI h Y Z) {m : Nat} (hm : m < snm (zS Z)) : FX9_whyOf E Y (nI m) h = xv (nI (whS (zS Z) (zT Z) m)) h := FX9_whyOf_v (y.1.1.ym hm) (y.1.1.gd hm)
theorem FX9_notLawful_2 (y : YI h Y Z) (hl : zld Z = true) {m : Nat} (hm : m < snm (zS Z)) (hw : ¬ whS (zS Z) (zT Z) m = 0) : FX9_notLawful E Y (nI m) h = xv 1 (yi h Y 0 3) := by
  have q := whS_le (zS Z) (zT Z) m
  unfold FX9_notLawful
  simp (disch := omega) only [↓xg, ↓reduceIte, ↓xjn_d, ↓xlt_d, eq_self, and_self, and_true, true_and, not_true, not_false_iff, ne_eq, true_or, or_true, or_false, false_or, nI_s, nI_leP, nI_eqP, y.l.1, ↓xb_eq (FX9_noModule_v y hl hm), (y.t 0).l.1, ↓xb_eq ((y.t 0).why hm), nI_eq0, hw, ↓xb_eq (FX9_refuse_1 y.l (c := 3) (by decide)), i1_0]
theorem FX9_notLawful_v (y : YI h Y Z) (hl : zld Z = true) {m : Nat} (hm : m < snm (zS Z)) (hw : whS (zS Z) (zT Z) m = 0) : FX9_notLawful E Y (nI m) h = xv 0 (yi h Y 0 0) := by
  unfold FX9_notLawful
  simp (disch := omega) only [↓xg, ↓reduceIte, ↓xjn_d, ↓xlt_d, eq_self, and_self, and_true, true_and, not_true, not_false_iff, ne_eq, true_or, or_true, or_false, false_or, nI_s, nI_leP, nI_eqP, y.l.1, ↓xb_eq (FX9_noModule_v y hl hm), (y.t 0).l.1, ↓xb_eq ((y.t 0).why hm), nI_eq0, hw, ↓xb_eq (FX9_refuse_0 y.l 3), i1_0]
theorem FX9_noLarge_0 (y : YI h Y Z) (hl : zld Z = false) (p q : Int32) : FX9_noLarge E Y p q h = xv 1 (yi h Y 0 1) := by
  unfold FX9_noLarge
  simp (disch := omega) only [↓xg, ↓reduceIte, ↓xjn_d, ↓xlt_d, eq_self, and_self, and_true, true_and, not_true, not_false_iff, ne_eq, true_or, or_true, or_false, false_or, nI_s, nI_leP, nI_eqP, y.l.1, ↓xb_eq (FX9_notLawful_0 y hl p), i1_0]
theorem FX9_noLarge_1 (y : YI h Y Z) (hl : zld Z = true) {p : Int32} (hp : inr p (snm (zS Z)) = false) (q : Int32) : FX9_noLarge E Y p q h = xv 1 (yi h Y 0 2) := by
  unfold FX9_noLarge
  simp (disch := omega) only [↓xg, ↓reduceIte, ↓xjn_d, ↓xlt_d, eq_self, and_self, and_true, true_and, not_true, not_false_iff, ne_eq, true_or, or_true, or_false, false_or, nI_s, nI_leP, nI_eqP, y.l.1, ↓xb_eq (FX9_notLawful_1 y hl hp), i1_0]
theorem FX9_noLarge_2 (y : YI h Y Z) (hl : zld Z = true) {m : Nat} (hm : m < snm (zS Z)) (hw : ¬ whS (zS Z) (zT Z) m = 0) (q : Int32) : FX9_noLarge E Y (nI m) q h = xv 1 (yi h Y 0 3) := by
  unfold FX9_noLarge
  simp (disch := omega) only [↓xg, ↓reduceIte, ↓xjn_d, ↓xlt_d, eq_self, and_self, and_true, true_and, not_true, not_false_iff, ne_eq, true_or, or_true, or_false, false_or, nI_s, nI_leP, nI_eqP, y.l.1, ↓xb_eq (FX9_notLawful_2 y hl hm hw), i1_0]
theorem FX9_noLarge_3 (y : YI h Y Z) (hl : zld Z = true) {m : Nat} (hm : m < snm (zS Z)) (hw : whS (zS Z) (zT Z) m = 0) {q : Int32} (hq : inr q (nuS (zS Z) m * nlS2 (zS Z) m) = false) : FX9_noLarge E Y (nI m) q h = xv 1 (yi h Y 0 3) := by
  have b := y.bm hm
  have y0 := y.t 0
  have b2 : nuS (zS Z) m * nlS2 (zS Z) m ≤ 8 * 8 := Nat.mul_le_mul b.2.2.2.1 b.2.2.2.2
  have u1 : FX9_uppers E Y (nI m) (yi h Y 0 0) = xv (nI (nuS (zS Z) m)) (yi h Y 0 0) := FX9_uppers_v (y0.1.1.ym hm)
  have u2 : FX9_lowers E Y (nI m) (yi h Y 0 0) = xv (nI (nlS2 (zS Z) m)) (yi h Y 0 0) := FX9_lowers_v (y0.1.1.ym hm)
  have u : FX9_in E q 0 (nI (nuS (zS Z) m) * nI (nlS2 (zS Z) m) - 1) (yi h Y 0 0) = xv 0 (yi h Y 0 0) := by
    rw [nI_m, FX9_in_v q (by omega), hq]; rfl
  unfold FX9_noLarge
  simp (disch := omega) only [↓xg, ↓reduceIte, ↓xjn_d, ↓xlt_d, eq_self, and_self, and_true, true_and, not_true, not_false_iff, ne_eq, true_or, or_true, or_false, false_or, nI_s, nI_leP, nI_eqP, y.l.1, ↓xb_eq (FX9_notLawful_v y hl hm hw), y0.l.1, ↓xb_eq (u1), ↓xb_eq (u2), ↓xb_eq (u), ↓xb_eq (FX9_refuse_1 y.l (c := 3) (by decide)), i1_0]
theorem FX9_noLarge_v (y : YI h Y Z) (hl : zld Z = true) {m : Nat} (hm : m < snm (zS Z)) (hw : whS (zS Z) (zT Z) m = 0) {j : Nat} (hj : j < nuS (zS Z) m * nlS2 (zS Z) m) : FX9_noLarge E Y (nI m) (nI j) h = xv 0 (yi h Y 0 0) := by
  have b := y.bm hm
  have y0 := y.t 0
  have b2 : nuS (zS Z) m * nlS2 (zS Z) m ≤ 8 * 8 := Nat.mul_le_mul b.2.2.2.1 b.2.2.2.2
  have u1 : FX9_uppers E Y (nI m) (yi h Y 0 0) = xv (nI (nuS (zS Z) m)) (yi h Y 0 0) := FX9_uppers_v (y0.1.1.ym hm)
  have u2 : FX9_lowers E Y (nI m) (yi h Y 0 0) = xv (nI (nlS2 (zS Z) m)) (yi h Y 0 0) := FX9_lowers_v (y0.1.1.ym hm)
  have u : FX9_in E (nI j) 0 (nI (nuS (zS Z) m) * nI (nlS2 (zS Z) m) - 1) (yi h Y 0 0) = xv 1 (yi h Y 0 0) := by
    rw [nI_m, FX9_in_v (nI j) (by omega), inr_nI (by omega) hj]; rfl
  unfold FX9_noLarge
  simp (disch := omega) only [↓xg, ↓reduceIte, ↓xjn_d, ↓xlt_d, eq_self, and_self, and_true, true_and, not_true, not_false_iff, ne_eq, true_or, or_true, or_false, false_or, nI_s, nI_leP, nI_eqP, y.l.1, ↓xb_eq (FX9_notLawful_v y hl hm hw), y0.l.1, ↓xb_eq (u1), ↓xb_eq (u2), ↓xb_eq (u), ↓xb_eq (FX9_refuse_0 y.l 3), i1_0]
theorem sh8 (n : Nat) (hn : n ≤ 8) : (1 : Int32) <<< (nI n &&& 31) = nI (2 ^ n) := by rw [sh_d, sh_eq (by omega)]
theorem FX9_noSet_0 (y : YI h Y Z) (hl : zld Z = false) (p q : Int32) : FX9_noSet E Y p q h = xv 1 (yi h Y 0 1) := by
  unfold FX9_noSet
  simp (disch := omega) only [↓xg, ↓reduceIte, ↓xjn_d, ↓xlt_d, eq_self, and_self, and_true, true_and, not_true, not_false_iff, ne_eq, true_or, or_true, or_false, false_or, nI_s, nI_leP, nI_eqP, y.l.1, ↓xb_eq (FX9_noGroup_0 y hl p), i1_0]
theorem FX9_noSet_1 (y : YI h Y Z) (hl : zld Z = true) {p : Int32} (hp : inr p (sng (zS Z)) = false) (q : Int32) : FX9_noSet E Y p q h = xv 1 (yi h Y 0 2) := by
  unfold FX9_noSet
  simp (disch := omega) only [↓xg, ↓reduceIte, ↓xjn_d, ↓xlt_d, eq_self, and_self, and_true, true_and, not_true, not_false_iff, ne_eq, true_or, or_true, or_false, false_or, nI_s, nI_leP, nI_eqP, y.l.1, ↓xb_eq (FX9_noGroup_1 y hl hp), i1_0]
theorem FX9_noSet_r (y : YI h Y Z) {g : Nat} (hg : g < sng (zS Z)) : xi (yi h Y 0 0) (Y + 1) (nI g).toNatClampNeg = nI (sgn (zS Z) g) := by
  have b := y.bg hg
  rw [xz_nI (by omega)]; exact ((y.t 0).1.1.2.2.1.2.1 g hg).1
theorem FX9_noSet_2 (y : YI h Y Z) (hl : zld Z = true) {g : Nat} (hg : g < sng (zS Z)) {q : Int32} (hq : setS q (sgn (zS Z) g) = false) : FX9_noSet E Y (nI g) q h = xv 1 (yi h Y 0 3) := by
  have b := y.bg hg
  have yl := (y.t 0).l
  have r0 := FX9_noSet_r y hg
  have hq2 : ¬ (0 ≤ q ∧ q < nI (2 ^ sgn (zS Z) g)) := of_decide_eq_false hq
  unfold FX9_noSet
  by_cases c : q < 0
  · simp (disch := omega) only [↓xg, ↓reduceIte, ↓xjn_d, ↓xlt_d, eq_self, and_self, and_true, true_and, not_true, not_false_iff, ne_eq, true_or, or_true, or_false, false_or, nI_s, nI_leP, nI_eqP, y.l.1, ↓xb_eq (FX9_noGroup_v y hl hg), c, yl.1, ↓xb_eq (FX9_refuse_1 y.l (c := 3) (by decide)), i1_0]
  · have c2 : ¬ q < nI (2 ^ sgn (zS Z) g) := fun z => hq2 ⟨Int32.not_lt.mp c, z⟩
    simp (disch := omega) only [↓xg, ↓reduceIte, ↓xjn_d, ↓xlt_d, eq_self, and_self, and_true, true_and, not_true, not_false_iff, ne_eq, true_or, or_true, or_false, false_or, nI_s, nI_leP, nI_eqP, y.l.1, ↓xb_eq (FX9_noGroup_v y hl hg), c, yl.1, ↓xnn_e (yl.r1), yl.k1, yl.n1, xin_t, r0, sh8 _ b.2, c2, ↓xb_eq (FX9_refuse_1 y.l (c := 3) (by decide)), i1_0]
theorem FX9_noSet_v (y : YI h Y Z) (hl : zld Z = true) {g : Nat} (hg : g < sng (zS Z)) {q : Int32} (hq : setS q (sgn (zS Z) g) = true) : FX9_noSet E Y (nI g) q h = xv 0 (yi h Y 0 0) := by
  have b := y.bg hg
  have yl := (y.t 0).l
  have r0 := FX9_noSet_r y hg
  obtain ⟨c1, c2⟩ := of_decide_eq_true hq
  have c : ¬ q < 0 := Int32.not_lt.mpr c1
  unfold FX9_noSet
  simp (disch := omega) only [↓xg, ↓reduceIte, ↓xjn_d, ↓xlt_d, eq_self, and_self, and_true, true_and, not_true, not_false_iff, ne_eq, true_or, or_true, or_false, false_or, nI_s, nI_leP, nI_eqP, y.l.1, ↓xb_eq (FX9_noGroup_v y hl hg), c, yl.1, ↓xnn_e (yl.r1), yl.k1, yl.n1, xin_t, r0, sh8 _ b.2, c2, ↓xb_eq (FX9_refuse_0 y.l 3), i1_0]
end GATE
