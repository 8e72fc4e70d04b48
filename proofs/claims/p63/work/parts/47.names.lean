/-! Names: letters out of the packed words, and out of the reference's rows. -/
set_option linter.unusedVariables false
theorem gD_lt {l : List Nat} {i : Nat} (h : i < l.length) : l.getD i 0 = l[i] := by
  rw [List.getD_eq_getElem?_getD, List.getElem?_eq_getElem h]; rfl
theorem gD_mem {l : List Nat} {i : Nat} (h : i < l.length) : l.getD i 0 ∈ l := by rw [gD_lt h]; exact List.getElem_mem h
theorem gD_l {l : List Nat} {c i : Nat} (h : i < l.length) : (l ++ [c]).getD i 0 = l.getD i 0 := by
  rw [List.getD_eq_getElem?_getD, List.getD_eq_getElem?_getD, List.getElem?_append_left h]
theorem gD_r (l : List Nat) (c : Nat) : (l ++ [c]).getD l.length 0 = c := by
  rw [List.getD_eq_getElem?_getD, List.getElem?_append_right (Nat.le_refl _), Nat.sub_self]; rfl
theorem gD_ge {l : List Nat} {i : Nat} (h : l.length ≤ i) : l.getD i 0 = 0 := by
  rw [List.getD_eq_getElem?_getD, List.getElem?_eq_none h]; rfl
theorem pkN_app (l : List Nat) (c : Nat) : pkN (l ++ [c]) = pkN l * 32 + (c - 96) := by
  unfold pkN
  rw [List.foldl_append]
  rfl
theorem list_snoc {P : List Nat → Prop} (h0 : P []) (hs : ∀ l c, P l → P (l ++ [c])) : ∀ l, P l := by
  intro l
  rw [← List.reverse_reverse l]
  induction l.reverse with
  | nil => exact h0
  | cons c l ih => rw [List.reverse_cons]; exact hs _ _ ih
theorem pkN_lt (l : List Nat) (h : ∀ c ∈ l, 97 ≤ c ∧ c ≤ 122) : pkN l < 32 ^ l.length := by
  revert h
  refine list_snoc (P := fun l => (∀ c ∈ l, 97 ≤ c ∧ c ≤ 122) → pkN l < 32 ^ l.length) (fun _ => by decide) (fun l c ih h => ?_) l
  have h1 := ih (fun c hc => h c (List.mem_append_left _ hc))
  have h2 := h c (List.mem_append_right _ (List.mem_singleton.mpr rfl))
  rw [pkN_app, List.length_append, List.length_singleton, Nat.pow_succ]
  omega
theorem pkN_dig (l : List Nat) (h : ∀ c ∈ l, 97 ≤ c ∧ c ≤ 122) : ∀ i, i < l.length → pkN l / 32 ^ (l.length - 1 - i) % 32 = l.getD i 0 - 96 := by
  revert h
  refine list_snoc (P := fun l => (∀ c ∈ l, 97 ≤ c ∧ c ≤ 122) → ∀ i, i < l.length → pkN l / 32 ^ (l.length - 1 - i) % 32 = l.getD i 0 - 96) (fun _ i hi => absurd hi (Nat.not_lt_zero _)) (fun l c ih h i hi => ?_) l
  have h2 := h c (List.mem_append_right _ (List.mem_singleton.mpr rfl))
  rw [List.length_append, List.length_singleton] at hi ⊢
  rw [pkN_app]
  by_cases e : i = l.length
  · subst e
    rw [show l.length + 1 - 1 - l.length = 0 by omega, Nat.pow_zero, Nat.div_one, gD_r]
    show (pkN l * 32 + (c - 96)) % 32 = c - 96
    omega
  · have h1 := ih (fun c hc => h c (List.mem_append_left _ hc)) i (by omega)
    rw [gD_l (show i < l.length by omega), ← h1, show l.length + 1 - 1 - i = (l.length - 1 - i) + 1 by omega, Nat.pow_succ, Nat.mul_comm (32 ^ (l.length - 1 - i)) 32, ← Nat.div_div_eq_div_mul]
    congr 2
    omega
theorem shJ : ∀ j, j < 10 → ((5 : Int32) * nI j).toInt64 &&& 63 = Int64.ofNat (5 * j) := by decide +kernel
theorem toI : ∀ c, c < 32 → (96 : Int32) + (Int64.ofNat c).toInt32 = nI (96 + c) := by decide +kernel
theorem lsh_nat {a j : Nat} (ha : a < 2 ^ 60) (hj : j < 10) : (Int64.ofNat a >>> Int64.ofNat (5 * j)) &&& 31 = Int64.ofNat (a / 32 ^ j % 32) := by
  apply Int64.toBitVec_inj.mp
  rw [Int64.toBitVec_and, Int64.toBitVec_shiftRight]
  show BitVec.sshiftRight' (BitVec.ofNat 64 a) ((BitVec.ofNat 64 (5 * j)).smod 64) &&& 31#64 = BitVec.ofNat 64 (a / 32 ^ j % 32)
  have e1 : ∀ j, j < 10 → ((BitVec.ofNat 64 (5 * j)).smod 64).toNat = 5 * j := by decide +kernel
  unfold BitVec.sshiftRight'
  rw [e1 j hj]
  apply BitVec.eq_of_toNat_eq
  rw [BitVec.toNat_and, BitVec.sshiftRight_eq_of_msb_false]
  · rw [BitVec.toNat_ushiftRight, BitVec.toNat_ofNat, BitVec.toNat_ofNat, BitVec.toNat_ofNat, Nat.mod_eq_of_lt (show a < 2 ^ 64 by omega), Nat.shiftRight_eq_div_pow, Nat.mod_eq_of_lt (show a / 32 ^ j % 32 < 2 ^ 64 by omega)]
    show (a / 2 ^ (5 * j)) &&& 31 = _
    rw [show (31 : Nat) = 2 ^ 5 - 1 from rfl, Nat.and_two_pow_sub_one_eq_mod, Nat.pow_mul]
  · rw [BitVec.msb_eq_false_iff_two_mul_lt, BitVec.toNat_ofNat, Nat.mod_eq_of_lt (show a < 2 ^ 64 by omega)]
    omega
section AG
variable {E : XG} {h : XH} {X Y O w s f : Nat} {Z : ZD}
theorem XI.nr (x : XI h X w s f Z) {t : Nat} (ht : t < 3) : xk h (w + 1 + 3 * t) = 4 ∧ xr h (w + 1 + 3 * t) 0 = some (w + 2 + 3 * t) ∧ xr h (w + 1 + 3 * t) 1 = some (w + 3 + 3 * t) ∧ xk h (w + 2 + 3 * t) = 13 ∧ xk h (w + 3 + 3 * t) = 12 ∧ xi h (w + 1 + 3 * t) 2 = nI (scn (zS Z) t) ∧ xn h (w + 2 + 3 * t) = (if t = 2 then 8 else 6) ∧ xn h (w + 3 + 3 * t) = (if t = 2 then 8 else 6) := by
  have wl := x.wl.2.1
  have c := x.ci.2.1.2.1
  match t, ht with
  | 0, _ => exact ⟨x.wl.kn, (wl (1, 0, 2, 13, 6) (by decide)).1, (wl (1, 1, 3, 12, 6) (by decide)).1, (wl (1, 0, 2, 13, 6) (by decide)).2.1, (wl (1, 1, 3, 12, 6) (by decide)).2.1, c.1, (wl (1, 0, 2, 13, 6) (by decide)).2.2, (wl (1, 1, 3, 12, 6) (by decide)).2.2⟩
  | 1, _ => exact ⟨x.wl.km, (wl (4, 0, 5, 13, 6) (by decide)).1, (wl (4, 1, 6, 12, 6) (by decide)).1, (wl (4, 0, 5, 13, 6) (by decide)).2.1, (wl (4, 1, 6, 12, 6) (by decide)).2.1, c.2.1, (wl (4, 0, 5, 13, 6) (by decide)).2.2, (wl (4, 1, 6, 12, 6) (by decide)).2.2⟩
  | 2, _ => exact ⟨x.wl.ka, (wl (7, 0, 8, 13, 8) (by decide)).1, (wl (7, 1, 9, 12, 8) (by decide)).1, (wl (7, 0, 8, 13, 8) (by decide)).2.1, (wl (7, 1, 9, 12, 8) (by decide)).2.1, c.2.2, (wl (7, 0, 8, 13, 8) (by decide)).2.2, (wl (7, 1, 9, 12, 8) (by decide)).2.2⟩
theorem XI.sc (x : XI h X w s f Z) {t : Nat} (ht : t < 3) : scn (zS Z) t ≤ (if t = 2 then 8 else 6) := by
  have c := x.ci.1.1.1
  match t, ht with
  | 0, _ => exact c.1
  | 1, _ => exact c.2.1
  | 2, _ => exact c.2.2
theorem FX3_has_n (x : XI h X w s f Z) {t : Nat} (ht : t < 3) (p : Int32) : FX3_has E (w + 1 + 3 * t) p h = xv (bI (inr p (scn (zS Z) t))) h := by
  obtain ⟨n1, n2, n3, n4, n5, n6, n7, n8⟩ := x.nr ht
  have q := x.sc ht
  exact FX3_has_v p n1 n6 (by rw [n2]; congr 1; omega) (by rw [show w + 1 + 3 * t + 1 = w + 2 + 3 * t by omega]; exact n4) (by rw [show w + 1 + 3 * t + 1 = w + 2 + 3 * t by omega]; exact n7) q (by split <;> omega)
theorem FX3_lengthOf_n (x : XI h X w s f Z) {t k : Nat} (ht : t < 3) (hk : k < scn (zS Z) t) : FX3_lengthOf E (w + 1 + 3 * t) (nI k) h = xv (nI (snn (zS Z) t k).length) h := by
  obtain ⟨n1, n2, n3, n4, n5, n6, n7, n8⟩ := x.nr ht
  have q := x.sc ht
  have e := (x.2.1.2 t k ht hk).2
  unfold FX3_lengthOf
  (try dsimp only); (rw [xg_t (n1), xnn_e (n3), xb_eq (FX8_at_in n5 n8 (by omega) (by split <;> omega)), e])
theorem FX3_letterOf_n (x : XI h X w s f Z) (z : WZ Z) {t k i : Nat} (ht : t < 3) (hk : k < scn (zS Z) t) (hi : i < (snn (zS Z) t k).length) : FX3_letterOf E (w + 1 + 3 * t) (nI k) (nI i) h = xv (nI ((snn (zS Z) t k).getD i 0)) h := by
  obtain ⟨n1, n2, n3, n4, n5, n6, n7, n8⟩ := x.nr ht
  have q := x.sc ht
  have e := (x.2.1.2 t k ht hk).1
  obtain ⟨⟨l1, l2⟩, l3⟩ := z.2.1 t k ht hk
  have b : scn (zS Z) t < 100 := by
    have : (if t = 2 then 8 else 6) ≤ 8 := by split <;> omega
    omega
  have hh : FX3_has E (w + 1 + 3 * t) (nI k) h = xv 1 h := by rw [FX3_has_n x ht, inr_nI (by omega) hk]; rfl
  have hlt := pkN_lt _ l3
  have hp : pkN (snn (zS Z) t k) < 2 ^ 60 := Nat.lt_of_lt_of_le hlt (Nat.le_trans (Nat.pow_le_pow_right (by decide) l2) (by decide))
  have hc : (snn (zS Z) t k).getD i 0 ∈ snn (zS Z) t k := by
    exact gD_mem hi
  have hc2 := l3 _ hc
  have ev : nI (snn (zS Z) t k).length - 1 - nI i = nI ((snn (zS Z) t k).length - 1 - i) := by
    rw [nI_p _ (by omega) (by omega), pk_sub (by omega)]
  unfold FX3_letterOf
  (try dsimp only); (rw [xg_t (n1), xb_eq (hh), if_neg (show ¬ (1 : Int32) = 0 by decide), xg_t (n1), xb_eq (FX3_lengthOf_n x ht hk), xlt_d, xg_t (n1), xnn_e (n2), xg_t (show xk h (w + 2 + 3 * t) = 13 ∧ xin (nI k) (xn h (w + 2 + 3 * t)) from ⟨n4, by rw [n7]; exact xin_nI (by omega) (by split <;> omega)⟩)])
  rw [xz_nI (by omega), e, ev, shJ _ (by omega), lsh_nat hp (by omega), toI _ (by omega), pkN_dig _ l3 i hi]
  congr 2
  omega
theorem FX7_namesOf_v (x : XI h X w s f Z) {t : Nat} (ht : t < 3) : FX7_namesOf E w (nI t) h = xv (w + 1 + 3 * t) h := by
  have wl := x.wl
  unfold FX7_namesOf
  match t, ht with
  | 0, _ => (try dsimp only); (rw [if_pos (show nI 0 = (0 : Int32) from rfl), xg_t (wl.1), xnn_e (wl.rn)])
  | 1, _ => (try dsimp only); (rw [if_neg (show ¬ nI 1 = (0 : Int32) by decide), xjn_d, if_pos (show nI 1 = (1 : Int32) from rfl), xg_t (wl.1), xnn_e (wl.rm)])
  | 2, _ => (try dsimp only); (rw [if_neg (show ¬ nI 2 = (0 : Int32) by decide), xjn_d, if_neg (show ¬ nI 2 = (1 : Int32) by decide), xg_t (wl.1), xnn_e (wl.ra)])
end AG
