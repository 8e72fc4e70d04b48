/-! Names: letters out of the packed words, and out of the reference's rows. -/
set_option linter.unusedVariables false
theorem gD_lt {l : List Nat} {i : Nat} (h : i < l.length) : l.getD i 0 = l[i] := by
  rw [List.getD_eq_getElem?_getD, List.getElem?_eq_getElem h]; rfl
theorem gD_mem {l : List Nat} {i : Nat} (h : i < l.length) : l.getD i 0 ∈ l := by rw [gD_lt h]; exact List.getElem_mem h
theorem gD_l {l : List Nat} {c i : Nat} (h : i < l.length) : (l ++ [c]).getD i 0 = l.getD i 0 := by
  rw [List.getD_eq_getElem?_getD, List.getD_eq_getElem?_getD, List.getElem?_append_left h]
theorem gD_r (l : List Nat) (c : Nat) : (l ++ [c]).getD l.length 0 = c := by
  rw [List.getD_eq_getElem?_getD, List.getElem?_append_right (Nat.le_refl _), Nat.sub_self]; rfl
theorem gD_ge {l : List Nat} {i : Nat} (h : l.length ≤ i) : l.getD i 0 = 0 := by
  rw [List.getD_eq_getElem?_getD, List.getElem?_eq_none h]; rfl
theorem pkN_app (l : List Nat) (c : Nat) : pkN (l ++ [c]) = pkN l * 32 + (c - 96) := by
  unfold pkN
  rw [List.foldl_append]
  rfl
theorem list_snoc {P : List Nat → Prop} (h0 : P []) (hs : ∀ l c, P l → P (l ++ [c])) : ∀ l, P l := by
  intro l
  rw [← List.reverse_reverse l]
  induction l.reverse with
  | nil => exact h0
  | cons c l ih => rw [List.reverse_cons]; exact hs _ _ ih
theorem pkN_lt (l : List Nat) (h : ∀ c ∈ l, 97 ≤ c ∧ c ≤ 122) : pkN l < 32 ^ l.length := by
  revert h
  refine list_snoc (P := fun l => (∀ c ∈ l, 97 ≤ c ∧ c ≤ 122) → pkN l < 32 ^ l.length) (fun _ => by decide) (fun l c ih h => ?_) l
  have h1 := ih (fun c hc => h c (List.mem_append_left _ hc))
  have h2 := h c (List.mem_append_right _ (List.mem_singleton.mpr rfl))
  rw [pkN_app, List.length_append, List.length_singleton, Nat.pow_succ]
  omega
theorem pkN_dig (l : List Nat) (h : ∀ c ∈ l, 97 ≤ c ∧ c ≤ 122) : ∀ i, i < l.length → pkN l / 32 ^ (l.length - 1 - i) % 32 = l.getD i 0 - 96 := by
  revert h
  refine list_snoc (P := fun l => (∀ c ∈ l, 97 ≤ c ∧ c ≤ 122) → ∀ i, i < l.length → pkN l / 32 ^ (l.length - 1 - i) % 32 = l.getD i 0 - 96) (fun _ i hi => absurd hi (Nat.not_lt_zero _)) (fun l c ih h i hi => ?_) l
  have h2 := h c (List.mem_append_right _ (List.mem_singleton.mpr rfl))
  rw [List.length_append, List.length_singleton] at hi ⊢
  rw [pkN_app]
  by_cases e : i = l.length
  · subst e
    rw [show l.length + 1 - 1 - l.length = 0 by omega, Nat.pow_zero, Nat.div_one, gD_r]
    show (pkN l * 32 + (c - 96)) % 32 = c - 96
    omega
  · have h1 := ih (fun c hc => h c (List.mem_append_left _ hc)) i (by omega)
    rw [gD_l (show i < l.length by omega), ← h1, show l.length + 1 - 1 - i = (l.length - 1 - i) + 1 by omega, Nat.pow_succ, Nat.mul_comm (32 ^ (l.length - 1 - i)) 32, ← Nat.div_div_eq_div_mul]
    congr 2
    omega
theorem shJ : ∀ j, j < 10 → ((5 : Int32) * nI j).toInt64 &&& 63 = Int64.ofNat (5 * j) := by decide +kernel
theorem toI : ∀ c, c < 32 → (96 : Int32) + (Int64.ofNat c).toInt32 = nI (96 + c) := by decide +kernel
theorem lsh_nat {a j : Nat} (ha : a < 2 ^ 60) (hj : j < 10) : (Int64.ofNat a >>> Int64.ofNat (5 * j)) &&& 31 = Int64.ofNat (a / 32 ^ j % 32) := by
  apply Int64.toBitVec_inj.mp
  rw [Int64.toBitVec_and, Int64.toBitVec_shiftRight]
  show BitVec.sshiftRight' (BitVec.ofNat 64 a) ((BitVec.ofNat 64 (5 * j)).smod 64) &&& 31#64 = BitVec.ofNat 64 (a / 32 ^ j % 32)
  have e1 : ∀ j, j < 10 → ((BitVec.ofNat 64 (5 * j)).smod 64).toNat = 5 * j := by decide +kernel
  unfold BitVec.sshiftRight'
  rw [e1 j hj]
  apply BitVec.eq_of_toNat_eq
  rw [BitVec.toNat_and, BitVec.sshiftRight_eq_of_msb_false]
  · rw [BitVec.toNat_ushiftRight, BitVec.toNat_ofNat, BitVec.toNat_ofNat, BitVec.toNat_ofNat, Nat.mod_eq_of_lt (show a < 2 ^ 64 by omega), Nat.shiftRight_eq_div_pow, Nat.mod_eq_of_lt (show a / 32 ^ j % 32 < 2 ^ 64 by omega)]
    show (a / 2 ^ (5 * j)) &&& 31 = _
    rw [show (31 : Nat) = 2 ^ 5 - 1 from rfl, Nat.and_two_pow_sub_one_eq_mod, Nat.pow_mul]
  · rw [BitVec.msb_eq_false_iff_two_mul_lt, BitVec.toNat_ofNat, Nat.mod_eq_of_lt (show a < 2 ^ 64 by omega)]
    omega
section AG
variable {E : XG} {h : XH} {X Y O w s f : Nat} {Z : ZD}
theorem XI.nr (x : XI h X w s f Z) {t : Nat} (ht : t < 3) : xk h (w + 1 + 3 * t) = 4 ∧ xr h (w + 1 + 3 * t) 0 = some (w + 2 + 3 * t) ∧ xr h (w + 1 + 3 * t) 1 = some (w + 3 + 3 * t) ∧ xk h (w + 2 + 3 * t) = 13 ∧ xk h (w + 3 + 3 * t) = 12 ∧ xi h (w + 1 + 3 * t) 2 = nI (scn (zS Z) t) ∧ xn h (w + 2 + 3 * t) = (if t = 2 then 8 else 6) ∧ xn h (w + 3 + 3 * t) = (if t = 2 then 8 else 6) := by
  have wl := x.wl.2.1
  have c := x.ci.2.1.2.1
  match t, ht with
  | 0, _ => exact ⟨x.wl.kn, (wl (1, 0, 2, 13, 6) (by decide)).1, (wl (1, 1, 3, 12, 6) (by decide)).1, (wl (1, 0, 2, 13, 6) (by decide)).2.1, (wl (1, 1, 3, 12, 6) (by decide)).2.1, c.1, (wl (1, 0, 2, 13, 6) (by decide)).2.2, (wl (1, 1, 3, 12, 6) (by decide)).2.2⟩
  | 1, _ => exact ⟨x.wl.km, (wl (4, 0, 5, 13, 6) (by decide)).1, (wl (4, 1, 6, 12, 6) (by decide)).1, (wl (4, 0, 5, 13, 6) (by decide)).2.1, (wl (4, 1, 6, 12, 6) (by decide)).2.1, c.2.1, (wl (4, 0, 5, 13, 6) (by decide)).2.2, (wl (4, 1, 6, 12, 6) (by decide)).2.2⟩
  | 2, _ => exact ⟨x.wl.ka, (wl (7, 0, 8, 13, 8) (by decide)).1, (wl (7, 1, 9, 12, 8) (by decide)).1, (wl (7, 0, 8, 13, 8) (by decide)).2.1, (wl (7, 1, 9, 12, 8) (by decide)).2.1, c.2.2, (wl (7, 0, 8, 13, 8) (by decide)).2.2, (wl (7, 1, 9, 12, 8) (by decide)).2.2⟩
theorem XI.sc (x : XI h X w s f Z) {t : Nat} (ht : t < 3) : scn (zS Z) t ≤ (if t = 2 then 8 else 6) := by
  have c := x.ci.1.1.1
  match t, ht with
  | 0, _ => exact c.1
  | 1, _ => exact c.2.1
  | 2, _ => exact c.2.2
theorem FX3_has_n (x : XI h X w s f Z) {t : Nat} (ht : t < 3) (p : Int32) : FX3_has E (w + 1 + 3 * t) p h = xv (bI (inr p (scn (zS Z) t))) h := by
  obtain ⟨n1, n2, n3, n4, n5, n6, n7, n8⟩ := x.nr ht
  have q := x.sc ht
  exact FX3_has_v p n1 n6 (by rw [n2]; congr 1; omega) (by rw [show w + 1 + 3 * t + 1 = w + 2 + 3 * t by omega]; exact n4) (by rw [show w + 1 + 3 * t + 1 = w + 2 + 3 * t by omega]; exact n7) q (by split <;> omega)
theorem FX3_lengthOf_n (x : XI h X w s f Z) {t k : Nat} (ht : t < 3) (hk : k < scn (zS Z) t) : FX3_lengthOf E (w + 1 + 3 * t) (nI k) h = xv (nI (snn (zS Z) t k).length) h := by
  obtain ⟨n1, n2, n3, n4, n5, n6, n7, n8⟩ := x.nr ht
  have q := x.sc ht
  have e := (x.2.1.2 t k ht hk).2
  unfold FX3_lengthOf
  (try dsimp only); (rw [xg_t (n1), xnn_e (n3), xb_eq (FX8_at_in n5 n8 (by omega) (by split <;> omega)), e])
theorem FX3_letterOf_n (x : XI h X w s f Z) (z : WZ Z) {t k i : Nat} (ht : t < 3) (hk : k < scn (zS Z) t) (hi : i < (snn (zS Z) t k).length) : FX3_letterOf E (w + 1 + 3 * t) (nI k) (nI i) h = xv (nI ((snn (zS Z) t k).getD i 0)) h := by
  obtain ⟨n1, n2, n3, n4, n5, n6, n7, n8⟩ := x.nr ht
  have q := x.sc ht
  have e := (x.2.1.2 t k ht hk).1
  obtain ⟨⟨l1, l2⟩, l3⟩ := z.2.1 t k ht hk
  have b : scn (zS Z) t < 100 := by
    have : (if t = 2 then 8 else 6) ≤ 8 := by split <;> omega
    omega
  have hh : FX3_has E (w + 1 + 3 * t) (nI k) h = xv 1 h := by rw [FX3_has_n x ht, inr_nI (by omega) hk]; rfl
  have hlt := pkN_lt _ l3
  have hp : pkN (snn (zS Z) t k) < 2 ^ 60 := Nat.lt_of_lt_of_le hlt (Nat.le_trans (Nat.pow_le_pow_right (by decide) l2) (by decide))
  have hc : (snn (zS Z) t k).getD i 0 ∈ snn (zS Z) t k := by
    exact gD_mem hi
  have hc2 := l3 _ hc
  have ev : nI (snn (zS Z) t k).length - 1 - nI i = nI ((snn (zS Z) t k).length - 1 - i) := by
    rw [nI_p _ (by omega) (by omega), pk_sub (by omega)]
  unfold FX3_letterOf
  (try dsimp only); (rw [xg_t (n1), xb_eq (hh), if_neg (show ¬ (1 : Int32) = 0 by decide), xg_t (n1), xb_eq (FX3_lengthOf_n x ht hk), xlt_d, xg_t (n1), xnn_e (n2), xg_t (show xk h (w + 2 + 3 * t) = 13 ∧ xin (nI k) (xn h (w + 2 + 3 * t)) from ⟨n4, by rw [n7]; exact xin_nI (by omega) (by split <;> omega)⟩)])
  rw [xz_nI (by omega), e, ev, shJ _ (by omega), lsh_nat hp (by omega), toI _ (by omega), pkN_dig _ l3 i hi]
  congr 2
  omega
theorem FX7_namesOf_v (x : XI h X w s f Z) {t : Nat} (ht : t < 3) : FX7_namesOf E w (nI t) h = xv (w + 1 + 3 * t) h := by
  have wl := x.wl
  unfold FX7_namesOf
  match t, ht with
  | 0, _ => (try dsimp only); (rw [if_pos (show nI 0 = (0 : Int32) from rfl), xg_t (wl.1), xnn_e (wl.rn)])
  | 1, _ => (try dsimp only); (rw [if_neg (show ¬ nI 1 = (0 : Int32) by decide), xjn_d, if_pos (show nI 1 = (1 : Int32) from rfl), xg_t (wl.1), xnn_e (wl.rm)])
  | 2, _ => (try dsimp only); (rw [if_neg (show ¬ nI 2 = (0 : Int32) by decide), xjn_d, if_neg (show ¬ nI 2 = (1 : Int32) by decide), xg_t (wl.1), xnn_e (wl.ra)])
theorem FX9_nameLong_v (y : YI h Y Z) (z : WZ Z) {t k : Nat} (ht : t < 3) (hk : k < scn (zS Z) t) (hk8 : 6 * t + k < 20) : FX9_nameLong E Y (nI (6 * t + k)) h = xv (nI (snn (zS Z) t k).length) h := by
  obtain ⟨⟨l1, l2⟩, l3⟩ := z.2.1 t k ht hk
  have nm := y.1.2 t k
  have yl := y.l
  unfold FX9_nameLong
  refine xlp_all (fun i => nI i) (fun _ => h) (snn (zS Z) t k).length (by omega) (fun i hi ag => ?_) (fun ag => ?_)
  · have hc : ¬ 10 ≤ i := by omega
    have e := nm i ht hk (by omega)
    have hc1 : (snn (zS Z) t k).getD i 0 ∈ snn (zS Z) t k := by
      exact gD_mem hi
    have hc2 := l3 _ hc1
    have hne : ¬ (snn (zS Z) t k).getD i 0 = 0 := by omega
    simp (disch := omega) only [↓xg, ↓reduceIte, ↓xjn_d, ↓xlt_d, eq_self, and_self, and_true, true_and, not_true, not_false_iff, ne_eq, true_or, or_true, or_false, false_or, nI_s, nI_leP, nI_eqP, li10, hc, yl.1, ↓xnn_e (yl.r7), yl.k7, yl.n7, nI_m, nI_a, xin_t, xz_nI, e, nI_eq0, hne]
  · by_cases hc : 10 ≤ (snn (zS Z) t k).length
    · simp (disch := omega) only [↓xg, ↓reduceIte, ↓xjn_d, ↓xlt_d, eq_self, and_self, and_true, true_and, not_true, not_false_iff, ne_eq, true_or, or_true, or_false, false_or, nI_s, nI_leP, nI_eqP, li10, hc]
    · have e := nm (snn (zS Z) t k).length ht hk (by omega)
      rw [gD_ge (Nat.le_refl _)] at e
      simp (disch := omega) only [↓xg, ↓reduceIte, ↓xjn_d, ↓xlt_d, eq_self, and_self, and_true, true_and, not_true, not_false_iff, ne_eq, true_or, or_true, or_false, false_or, nI_s, nI_leP, nI_eqP, li10, hc, yl.1, ↓xnn_e (yl.r7), yl.k7, yl.n7, nI_m, nI_a, xin_t, xz_nI, e, nI_0]
theorem in_02' {h : XH} (p : Int32) : FX9_in E p 0 2 h = xv (bI (inr p 3)) h := FX9_in_v (n := 3) p (by omega)
theorem ag_count (j : JJ h X Y O Z) (p : Int32) : AGx X Y (cmT [0, 2]) h Z (FX8_count E X p) (FX9_count E Y p) := by
  obtain ⟨z, -, -, ⟨w, s, f, x⟩, y⟩ := j
  cases hl : zld Z
  · refine AG_x 0 1 0 ?_ (fun h' y => ?_) (by decide)
    · unfold FX8_count
      rw [xg_t x.k, FX8_demandText_0 x hl]
      rfl
    · unfold FX9_count
      simp (disch := omega) only [↓xg, ↓reduceIte, ↓xjn_d, ↓xlt_d, eq_self, and_self, and_true, true_and, not_true, not_false_iff, ne_eq, true_or, or_true, or_false, false_or, nI_s, nI_leP, nI_eqP, y.l.1, ↓xb_eq (FX9_notLoaded_0 y hl), i1_0]
      try rfl
  · cases hp : inr p 3
    · refine AG_x 2 2 0 ?_ (fun h' y => ?_) (by decide)
      · unfold FX8_count
        rcases inr_no hp with c | ⟨c1, c2⟩
        · simp (disch := omega) only [↓xg, ↓reduceIte, ↓xjn_d, ↓xlt_d, eq_self, and_self, and_true, true_and, not_true, not_false_iff, ne_eq, true_or, or_true, or_false, false_or, nI_s, nI_leP, nI_eqP, x.k, ↓xb_eq (FX8_demandText_v x hl), c, ↓dT0b, ↓dT1b, ↓dF0b, ↓dF1b, i1_0]
        · simp (disch := omega) only [↓xg, ↓reduceIte, ↓xjn_d, ↓xlt_d, eq_self, and_self, and_true, true_and, not_true, not_false_iff, ne_eq, true_or, or_true, or_false, false_or, nI_s, nI_leP, nI_eqP, x.k, ↓xb_eq (FX8_demandText_v x hl), c1, li3, c2, ↓dT0b, ↓dT1b, ↓dF0b, ↓dF1b, i1_0]
      · have y0 := y.t 0
        have e1 := in_02 (E := E) (h := yi h' Y 0 0) p
        rw [hp] at e1
        have e1 : FX9_in E p 0 2 (yi h' Y 0 0) = xv 0 (yi h' Y 0 0) := e1
        unfold FX9_count
        simp (disch := omega) only [↓xg, ↓reduceIte, ↓xjn_d, ↓xlt_d, eq_self, and_self, and_true, true_and, not_true, not_false_iff, ne_eq, true_or, or_true, or_false, false_or, nI_s, nI_leP, nI_eqP, y.l.1, ↓xb_eq (FX9_notLoaded_v y hl), ↓xb_eq (e1), y0.l.1, ↓xb_eq (FX9_refuse_1 y.l (c := 2) (by decide)), i1_0]
        try rfl
    · obtain ⟨k, hk, rfl⟩ := inr_of (by omega) hp
      have c1 : ¬ nI k < (0 : Int32) := by rw [nI_lt0 (by omega)]; exact id
      have c2 : ¬ 3 ≤ k := by omega
      obtain ⟨n1, n2, n3, n4, n5, n6, n7, n8⟩ := x.nr hk
      refine AG_v (nI (scn (zS Z) k)) ?_ (fun h' y => ?_)
      · unfold FX8_count
        simp (disch := omega) only [↓xg, ↓reduceIte, ↓xjn_d, ↓xlt_d, eq_self, and_self, and_true, true_and, not_true, not_false_iff, ne_eq, true_or, or_true, or_false, false_or, nI_s, nI_leP, nI_eqP, x.k, ↓xb_eq (FX8_demandText_v x hl), c1, li3, c2, ↓dT0b, ↓dT1b, ↓dF0b, ↓dF1b, i1_0, ↓xnn_e (x.w5), x.wl.1, ↓xb_eq (FX7_namesOf_v x hk), n1, n6]
      · have y0 := y.t 0
        have e1 := in_02 (E := E) (h := yi h' Y 0 0) (nI k)
        rw [hp] at e1
        have e1 : FX9_in E (nI k) 0 2 (yi h' Y 0 0) = xv 1 (yi h' Y 0 0) := e1
        unfold FX9_count
        match k, hk with
        | 0, _ =>
          have z0 : (nI 0 = (0 : Int32)) = True := eq_true rfl
          simp (disch := omega) only [↓xg, ↓reduceIte, ↓xjn_d, ↓xlt_d, eq_self, and_self, and_true, true_and, not_true, not_false_iff, ne_eq, true_or, or_true, or_false, false_or, nI_s, nI_leP, nI_eqP, y.l.1, ↓xb_eq (FX9_notLoaded_v y hl), ↓xb_eq (e1), y0.l.1, ↓xb_eq (FX9_refuse_0 y.l 2), i1_0, z0, y0.cg]
          rfl
        | 1, _ =>
          have z0 : (nI 1 = (0 : Int32)) = False := eq_false (by decide)
          have z1 : (nI 1 = (1 : Int32)) = True := eq_true rfl
          simp (disch := omega) only [↓xg, ↓reduceIte, ↓xjn_d, ↓xlt_d, eq_self, and_self, and_true, true_and, not_true, not_false_iff, ne_eq, true_or, or_true, or_false, false_or, nI_s, nI_leP, nI_eqP, y.l.1, ↓xb_eq (FX9_notLoaded_v y hl), ↓xb_eq (e1), y0.l.1, ↓xb_eq (FX9_refuse_0 y.l 2), i1_0, z0, z1, y0.cm]
          rfl
        | 2, _ =>
          have z0 : (nI 2 = (0 : Int32)) = False := eq_false (by decide)
          have z1 : (nI 2 = (1 : Int32)) = False := eq_false (by decide)
          simp (disch := omega) only [↓xg, ↓reduceIte, ↓xjn_d, ↓xlt_d, eq_self, and_self, and_true, true_and, not_true, not_false_iff, ne_eq, true_or, or_true, or_false, false_or, nI_s, nI_leP, nI_eqP, y.l.1, ↓xb_eq (FX9_notLoaded_v y hl), ↓xb_eq (e1), y0.l.1, ↓xb_eq (FX9_refuse_0 y.l 2), i1_0, z0, z1, y0.ca]
          rfl
theorem ag_letter (j : JJ h X Y O Z) (p q r : Int32) : AGx X Y (cmT [0, 1, 2]) h Z (FX8_letter E X p q r) (FX9_letter E Y p q r) := by
  obtain ⟨z, -, -, ⟨w, s, f, x⟩, y⟩ := j
  cases hl : zld Z
  · refine AG_x 0 1 0 ?_ (fun h' y => ?_) (by decide)
    · unfold FX8_letter
      rw [xg_t x.k, FX8_demandText_0 x hl]
      rfl
    · unfold FX9_letter
      simp (disch := omega) only [↓xg, ↓reduceIte, ↓xjn_d, ↓xlt_d, eq_self, and_self, and_true, true_and, not_true, not_false_iff, ne_eq, true_or, or_true, or_false, false_or, nI_s, nI_leP, nI_eqP, y.l.1, ↓xb_eq (FX9_notLoaded_0 y hl), i1_0]
      try rfl
  · cases hp : inr p 3
    · refine AG_x 2 3 0 ?_ (fun h' y => ?_) (by decide)
      · unfold FX8_letter
        rcases inr_no hp with c | ⟨c1, c2⟩
        · simp (disch := omega) only [↓xg, ↓reduceIte, ↓xjn_d, ↓xlt_d, eq_self, and_self, and_true, true_and, not_true, not_false_iff, ne_eq, true_or, or_true, or_false, false_or, nI_s, nI_leP, nI_eqP, x.k, ↓xb_eq (FX8_demandText_v x hl), c, ↓dT0b, ↓dT1b, ↓dF0b, ↓dF1b, i1_0]
        · simp (disch := omega) only [↓xg, ↓reduceIte, ↓xjn_d, ↓xlt_d, eq_self, and_self, and_true, true_and, not_true, not_false_iff, ne_eq, true_or, or_true, or_false, false_or, nI_s, nI_leP, nI_eqP, x.k, ↓xb_eq (FX8_demandText_v x hl), c1, li3, c2, ↓dT0b, ↓dT1b, ↓dF0b, ↓dF1b, i1_0]
      · have y0 := y.t 0
        have e1 := in_02 (E := E) (h := yi h' Y 0 0) p
        rw [hp] at e1
        have e1 : FX9_in E p 0 2 (yi h' Y 0 0) = xv 0 (yi h' Y 0 0) := e1
        unfold FX9_letter
        simp (disch := omega) only [↓xg, ↓reduceIte, ↓xjn_d, ↓xlt_d, eq_self, and_self, and_true, true_and, not_true, not_false_iff, ne_eq, true_or, or_true, or_false, false_or, nI_s, nI_leP, nI_eqP, y.l.1, ↓xb_eq (FX9_notLoaded_v y hl), ↓xb_eq (e1), y0.l.1, ↓xb_eq (FX9_refuse_1 y.l (c := 3) (by decide)), i1_0]
        try rfl
    · obtain ⟨t, ht, rfl⟩ := inr_of (by omega) hp
      have c1 : ¬ nI t < (0 : Int32) := by rw [nI_lt0 (by omega)]; exact id
      have c2 : ¬ 3 ≤ t := by omega
      obtain ⟨n1, n2, n3, n4, n5, n6, n7, n8⟩ := x.nr ht
      have sc := x.sc ht
      have sc2 : scn (zS Z) t ≤ 8 ∧ (t < 2 → scn (zS Z) t ≤ 6) := by
        refine ⟨by split at sc <;> omega, fun h2 => ?_⟩
        rw [if_neg (by omega)] at sc
        exact sc
      -- the reference up to the count
      have pre : ∀ h', YI h' Y Z → ∃ (K : Int32 → XH → XP Int32), (FX9_letter E Y (nI t) q r h' = K (nI (scn (zS Z) t)) (yi h' Y 0 0)) ∧ K = fun (v10 : Int32) (h11 : XH) => xb (FX9_in E q 0 (v10 - 1) h11) fun v12 h13 => xjn (fun (v14 : Int32) (h15 : XH) => xg (xk h15 Y = 10) <| xb (FX9_refuse E Y v14 2 h15) fun v16 h17 => xjn (fun  (h18 : XH) => xv 0 h18) fun (j118 : XH → XP Int32) => if (v16 : Int32) = 0 then (xg (xk h17 Y = 10) <| xb (FX9_nameLong E Y ((6 * nI t) + q) h17) fun v19 h20 => xb (FX9_in E r 0 (v19 - 1) h20) fun v21 h22 => xjn (fun (v23 : Int32) (h24 : XH) => xg (xk h24 Y = 10) <| xb (FX9_refuse E Y v23 2 h24) fun v25 h26 => if (v25 : Int32) = 0 then (xg (xk h26 Y = 10) <| xnn (xr h26 Y 11) fun w27 => xg (xk h26 w27 = 12 ∧ xin ((10 * ((6 * nI t) + q)) + r) (xn h26 w27)) <| xv (xi h26 w27 (((10 * ((6 * nI t) + q)) + r) : Int32).toNatClampNeg) h26) else (j118 h26)) fun (j111 : Int32 → XH → XP Int32) => if (v21 : Int32) = 0 then (j111 1 h22) else (j111 0 h22)) else (j118 h17)) fun (j78 : Int32 → XH → XP Int32) => if (v12 : Int32) = 0 then (j78 1 h13) else (j78 0 h13) := fun h' y => by
        have y0 := y.t 0
        have e1 := in_02 (E := E) (h := yi h' Y 0 0) (nI t)
        rw [hp] at e1
        have e1 : FX9_in E (nI t) 0 2 (yi h' Y 0 0) = xv 1 (yi h' Y 0 0) := e1
        refine ⟨_, ?_, rfl⟩
        unfold FX9_letter
        match t, ht with
        | 0, _ => (try dsimp only); (rw [xg_t (y.l.1), xb_eq (FX9_notLoaded_v y hl), xjn_d, if_pos rfl, xb_eq (e1), xjn_d, if_neg (show ¬ (1 : Int32) = 0 by decide)]); (try dsimp only); (rw [xg_t (y0.l.1), xb_eq (FX9_refuse_0 y.l 3), if_pos rfl, xjn_d, if_pos (show nI 0 = (0 : Int32) from rfl), xg_t (y0.l.1), y0.cg]); rfl
        | 1, _ => (try dsimp only); (rw [xg_t (y.l.1), xb_eq (FX9_notLoaded_v y hl), xjn_d, if_pos rfl, xb_eq (e1), xjn_d, if_neg (show ¬ (1 : Int32) = 0 by decide)]); (try dsimp only); (rw [xg_t (y0.l.1), xb_eq (FX9_refuse_0 y.l 3), if_pos rfl, xjn_d, if_neg (show ¬ nI 1 = (0 : Int32) by decide), if_pos (show nI 1 = (1 : Int32) from rfl), xg_t (y0.l.1), y0.cm]); rfl
        | 2, _ => (try dsimp only); (rw [xg_t (y.l.1), xb_eq (FX9_notLoaded_v y hl), xjn_d, if_pos rfl, xb_eq (e1), xjn_d, if_neg (show ¬ (1 : Int32) = 0 by decide)]); (try dsimp only); (rw [xg_t (y0.l.1), xb_eq (FX9_refuse_0 y.l 3), if_pos rfl, xjn_d, if_neg (show ¬ nI 2 = (0 : Int32) by decide), if_neg (show ¬ nI 2 = (1 : Int32) by decide), xg_t (y0.l.1), y0.ca]); rfl
      cases hq : inr q (scn (zS Z) t)
      · have hh : FX3_has E (w + 1 + 3 * t) q h = xv 0 h := by rw [FX3_has_n x ht, hq]; rfl
        refine AG_x 1 2 0 ?_ (fun h' y => ?_) (by decide)
        · unfold FX8_letter
          simp (disch := omega) only [↓xg, ↓reduceIte, ↓xjn_d, ↓xlt_d, eq_self, and_self, and_true, true_and, not_true, not_false_iff, ne_eq, true_or, or_true, or_false, false_or, nI_s, nI_leP, nI_eqP, x.k, ↓xb_eq (FX8_demandText_v x hl), c1, li3, c2, ↓dT0b, ↓dT1b, ↓dF0b, ↓dF1b, i1_0, ↓xnn_e (x.w5), x.wl.1, ↓xb_eq (FX7_namesOf_v x ht), n1, ↓xb_eq (hh)]
        · have y0 := y.t 0
          obtain ⟨K, e1, rfl⟩ := pre h' y
          rw [e1]
          simp (disch := omega) only [↓xg, ↓reduceIte, ↓xjn_d, ↓xlt_d, eq_self, and_self, and_true, true_and, not_true, not_false_iff, ne_eq, true_or, or_true, or_false, false_or, nI_s, nI_leP, nI_eqP, ↓xb_eq (in_f (E := E) (h := yi h' Y 0 0) (show scn (zS Z) t < 2 ^ 31 by omega) hq), y0.l.1, ↓xb_eq (FX9_refuse_1 y.l (c := 2) (by decide)), i1_0]
          try rfl
      · obtain ⟨k, hk, rfl⟩ := inr_of (by omega) hq
        obtain ⟨⟨l1, l2⟩, l3⟩ := z.2.1 t k ht hk
        have hk20 : 6 * t + k < 20 := by
          rcases Nat.lt_or_ge t 2 with z2 | z2
          · have := sc2.2 z2; omega
          · omega
        have hh : FX3_has E (w + 1 + 3 * t) (nI k) h = xv 1 h := by rw [FX3_has_n x ht, hq]; rfl
        have e6 : (6 : Int32) * nI t + nI k = nI (6 * t + k) := by rw [li6, nI_m, nI_a]
        cases hr : inr r (snn (zS Z) t k).length
        · refine AG_x 1 2 0 ?_ (fun h' y => ?_) (by decide)
          · unfold FX8_letter
            rcases inr_no hr with c | ⟨d1, d2⟩
            · simp (disch := omega) only [↓xg, ↓reduceIte, ↓xjn_d, ↓xlt_d, eq_self, and_self, and_true, true_and, not_true, not_false_iff, ne_eq, true_or, or_true, or_false, false_or, nI_s, nI_leP, nI_eqP, x.k, ↓xb_eq (FX8_demandText_v x hl), c1, li3, c2, ↓dT0b, ↓dT1b, ↓dF0b, ↓dF1b, i1_0, ↓xnn_e (x.w5), x.wl.1, ↓xb_eq (FX7_namesOf_v x ht), n1, ↓xb_eq (hh), c]
            · simp (disch := omega) only [↓xg, ↓reduceIte, ↓xjn_d, ↓xlt_d, eq_self, and_self, and_true, true_and, not_true, not_false_iff, ne_eq, true_or, or_true, or_false, false_or, nI_s, nI_leP, nI_eqP, x.k, ↓xb_eq (FX8_demandText_v x hl), c1, li3, c2, ↓dT0b, ↓dT1b, ↓dF0b, ↓dF1b, i1_0, ↓xnn_e (x.w5), x.wl.1, ↓xb_eq (FX7_namesOf_v x ht), n1, ↓xb_eq (hh), d1, ↓xb_eq (FX3_lengthOf_n x ht hk), d2]
          · have y0 := y.t 0
            have y2 := y.t 2
            obtain ⟨K, e1, rfl⟩ := pre h' y
            rw [e1, e6]
            simp (disch := omega) only [↓xg, ↓reduceIte, ↓xjn_d, ↓xlt_d, eq_self, and_self, and_true, true_and, not_true, not_false_iff, ne_eq, true_or, or_true, or_false, false_or, nI_s, nI_leP, nI_eqP, ↓xb_eq (in_t (E := E) (h := yi h' Y 0 0) (show scn (zS Z) t < 2 ^ 31 by omega) hk), y0.l.1, ↓xb_eq (FX9_refuse_0 y.l 2), i1_0, ↓xb_eq (FX9_nameLong_v y0 z ht hk hk20), ↓xb_eq (in_f (E := E) (h := yi h' Y 0 0) (show (snn (zS Z) t k).length < 2 ^ 31 by omega) hr), ↓xb_eq (FX9_refuse_1 y.l (c := 2) (by decide))]
            try rfl
        · obtain ⟨i, hi, rfl⟩ := inr_of (by omega) hr
          have d1 : ¬ nI i < (0 : Int32) := by rw [nI_lt0 (by omega)]; exact id
          have d2 : ¬ (snn (zS Z) t k).length ≤ i := by omega
          refine AG_v (nI ((snn (zS Z) t k).getD i 0)) ?_ (fun h' y => ?_)
          · unfold FX8_letter
            simp (disch := omega) only [↓xg, ↓reduceIte, ↓xjn_d, ↓xlt_d, eq_self, and_self, and_true, true_and, not_true, not_false_iff, ne_eq, true_or, or_true, or_false, false_or, nI_s, nI_leP, nI_eqP, x.k, ↓xb_eq (FX8_demandText_v x hl), c1, li3, c2, ↓dT0b, ↓dT1b, ↓dF0b, ↓dF1b, i1_0, ↓xnn_e (x.w5), x.wl.1, ↓xb_eq (FX7_namesOf_v x ht), n1, ↓xb_eq (hh), d1, ↓xb_eq (FX3_lengthOf_n x ht hk), d2, ↓xb_eq (FX3_letterOf_n x z ht hk hi)]
          · have y0 := y.t 0
            have nm := y0.1.2 t k i ht hk (by omega)
            have e10 : (10 : Int32) * nI (6 * t + k) + nI i = nI (10 * (6 * t + k) + i) := by rw [li10, nI_m, nI_a]
            obtain ⟨K, e1, rfl⟩ := pre h' y
            rw [e1, e6, e10]
            simp (disch := omega) only [↓xg, ↓reduceIte, ↓xjn_d, ↓xlt_d, eq_self, and_self, and_true, true_and, not_true, not_false_iff, ne_eq, true_or, or_true, or_false, false_or, nI_s, nI_leP, nI_eqP, ↓xb_eq (in_t (E := E) (h := yi h' Y 0 0) (show scn (zS Z) t < 2 ^ 31 by omega) hk), y0.l.1, ↓xb_eq (FX9_refuse_0 y.l 2), i1_0, ↓xb_eq (FX9_nameLong_v y0 z ht hk hk20), ↓xb_eq (in_t (E := E) (h := yi h' Y 0 0) (show (snn (zS Z) t k).length < 2 ^ 31 by omega) hi), ↓xnn_e (y0.l.r7), y0.l.k7, y0.l.n7, xin_t, xz_nI, nm]
end AG
