/-! The class's groups, second half: sets. -/
set_option linter.unusedVariables false
theorem mask_mb : ∀ n, n < 9 → ∀ k, k < 32 → mb (((1 <<< (nI n &&& 31)) - 1) ^^^ (-1)) k = decide (n ≤ k) := by decide +kernel
theorem mask_in {p : Int32} {n : Nat} (hn : n ≤ 8) : (p &&& (((1 <<< (nI n &&& 31)) - 1) ^^^ (-1))) = 0 ↔ inB n p := by
  constructor
  · intro h k hk
    rcases Nat.lt_or_ge k 32 with q | q
    · have h2 : mb (p &&& (((1 <<< (nI n &&& 31)) - 1) ^^^ (-1))) k = false := by rw [h]; exact mb_0 k
      rw [mb_and, mask_mb n (by omega) k q] at h2
      simpa [hk] using h2
    · exact mb_ge p q
  · intro h
    refine mb_ext fun k hk => ?_
    rw [mb_and, mask_mb n (by omega) k hk, mb_0]
    by_cases q : n ≤ k
    · rw [h k q]; rfl
    · simp [q]
theorem low_mb : ∀ n, n < 9 → ∀ k, k < 32 → mb (nI (2 ^ n - 1)) k = decide (k < n) := by decide +kernel
theorem inB_nI {p : Int32} {n : Nat} (hn : n ≤ 8) (h : inB n p) : ∃ j, j < 2 ^ n ∧ p = nI j := by
  have e : p &&& nI (2 ^ n - 1) = p := mb_ext fun k hk => by
    rw [mb_and, low_mb n (by omega) k hk]
    by_cases q : k < n
    · simp [q]
    · rw [h k (by omega)]; rfl
  have e2 := pk_and p (m := nI (2 ^ n - 1)) n (by
    have : ∀ n, n < 9 → (nI (2 ^ n - 1)).toBitVec.toNat = 2 ^ n - 1 := by decide +kernel
    exact this n (by omega))
  rw [e] at e2
  exact ⟨_, Nat.mod_lt _ (Nat.two_pow_pos n), e2⟩
theorem inB_iff {p : Int32} {n : Nat} (hn : n ≤ 8) : inB n p ↔ 0 ≤ p ∧ p < nI (2 ^ n) := by
  have h8 : 2 ^ n ≤ 2 ^ 8 := Nat.pow_le_pow_right (by omega) hn
  constructor
  · intro h
    obtain ⟨j, hj, rfl⟩ := inB_nI hn h
    rw [nI_0le (by omega), nI_ltP (by omega) (by omega)]
    exact ⟨trivial, hj⟩
  · intro ⟨h1, h2⟩ k hk
    obtain ⟨j, hj, rfl⟩ := nI_of (Int32.not_lt.mpr h1)
    rw [nI_ltP hj (by omega)] at h2
    rw [mb_nI, Nat.testBit_lt_two_pow (Nat.lt_of_lt_of_le h2 (Nat.pow_le_pow_right (by omega) hk)), Bool.and_false]
/-- a set of the first n -/
def setS (p : Int32) (n : Nat) : Bool := decide (0 ≤ p ∧ p < nI (2 ^ n))
theorem setS_in {p : Int32} {n : Nat} (hn : n ≤ 8) (h : setS p n = true) : inB n p := (inB_iff hn).mpr (of_decide_eq_true h)
def cjS (n : Nat) (t : Nat → Nat → Nat) (v : Nat → Nat) (a : Nat) : Int32 := orI (fun c => sh (t (t c a) (v c))) n
/-- a fold over numbers -/
def fld {σ : Type} (f : Nat → σ → σ) (s : σ) : Nat → σ
  | 0 => s
  | n + 1 => f n (fld f s n)
theorem fld_s {σ : Type} (f : Nat → σ → σ) (s : σ) (n : Nat) : fld f s (n + 1) = f n (fld f s n) := rfl
/-- conjugacy classes, as the class counts them: seen and how many -/
def ccS (n : Nat) (t : Nat → Nat → Nat) (v : Nat → Nat) : Nat → Int32 × Nat := fld (fun a s => if mb s.1 a then s else (s.1 ||| cjS n t v a, s.2 + 1)) (0, 0)
/-- products of two of a set -/
def pwS (n : Nat) (t : Nat → Nat → Nat) (s : Int32) : Int32 := orI (fun a => if mb s a then orI (fun b => if mb s b then sh (t a b) else 0) n else 0) n
def clW (n : Nat) (t : Nat → Nat → Nat) (s : Int32) : Nat → Int32 := fld (fun _ x => x ||| pwS n t x) (s ||| 1)
theorem or_assoc (a b c : Int32) : a ||| b ||| c = a ||| (b ||| c) := mb_ext fun k _ => by simp only [mb_or, Bool.or_assoc]
/-- ors onto X -/
def orF (X : Int32) (f : Nat → Int32) : Nat → Int32
  | 0 => X
  | n + 1 => orF X f n ||| f n
theorem orF_s (X : Int32) (f : Nat → Int32) (n : Nat) : orF X f (n + 1) = orF X f n ||| f n := rfl
theorem orF_e (X : Int32) (f : Nat → Int32) (n : Nat) : orF X f n = X ||| orI f n := by
  induction n with
  | zero => exact (or_0 X).symm
  | succ n ih => rw [orF_s, ih, orI_s, or_assoc]
theorem bI_eq0 (b : Bool) : (bI b = 0) = (b = false) := propext (bI_0 b)
section GRP
variable {E : XG} {h : XH} {A n : Nat} {t : Nat → Nat → Nat} {v : Nat → Nat}
theorem FX2_hasAll_v (hL : GL h A) (hT : GT h A n t) (p : Int32) : FX2_hasAll E A p h = xv (bI (setS p n)) h := by
  have l1 := hL.1
  have t1 := hT.1
  unfold FX2_hasAll
  have key := (mask_in (p := p) hT.2.2.1).trans (inB_iff hT.2.2.1)
  unfold setS
  by_cases c : (p &&& (((1 <<< (nI n &&& 31)) - 1) ^^^ (-1))) = 0
  · have := key.mp c
    simp (disch := omega) only [xg, xnn_s, xb_v, xb_x, xlt_d, xjn_d, if_true, if_false, eq_self, and_self, and_true, true_and, not_true, not_false_iff, ne_eq, true_or, or_true, or_false, false_or, l1, t1, c, this, decide_true, bI, i1_0]
  · have : ¬ (0 ≤ p ∧ p < nI (2 ^ n)) := fun q => c (key.mpr q)
    simp (disch := omega) only [xg, xnn_s, xb_v, xb_x, xlt_d, xjn_d, if_true, if_false, eq_self, and_self, and_true, true_and, not_true, not_false_iff, ne_eq, true_or, or_true, or_false, false_or, l1, t1, c, this, decide_false, bI]
    rfl
theorem FX2_productsWithin_v (hL : GL h A) (hT : GT h A n t) (s : Int32) : FX2_productsWithin E A s h = xv (pwS n t s) h := by
  have l1 := hL.1
  have hT2 := hT
  obtain ⟨t1, t2, t3, t4⟩ := hT2
  unfold FX2_productsWithin
  refine xlp_all (fun i => (orI (fun a => if mb s a then orI (fun b => if mb s b then sh (t a b) else 0) n else 0) i, nI i)) (fun _ => h) n (by omega) (fun i hi ag => ?_) (fun ag => ?_)
  · have hc : ¬ n ≤ i := by omega
    simp (disch := omega) only [xg, xnn_s, xb_v, xb_x, xlt_d, xjn_d, if_true, if_false, eq_self, and_self, and_true, true_and, not_true, not_false_iff, ne_eq, true_or, or_true, or_false, false_or, l1, t1, nI_leP, hc]
    generalize hX : orI (fun a => if mb s a then orI (fun b => if mb s b then sh (t a b) else 0) n else 0) i = X
    cases hm : mb s i
    · refine (xlp_all (fun b => (X, nI b)) (fun _ => h) 0 (by omega) (fun b hb => by omega) (fun ag' => ?_)).trans (b := ag (X, nI i + 1) h) ?_
      · have hc0 : ¬ n ≤ 0 := by omega
        simp (disch := omega) only [xg, xnn_s, xb_v, xb_x, xlt_d, xjn_d, if_true, if_false, eq_self, and_self, and_true, true_and, not_true, not_false_iff, ne_eq, true_or, or_true, or_false, false_or, l1, t1, nI_leP, hc0, FX8_isIn_v _ (show i < 32 by omega), bI_eq0, hm]
      · rw [orI_s, hX, hm, nI_s]
        show _ = ag (X ||| 0, _) h
        rw [or_0]
    · refine (xlp_all (fun b => (orF X (fun b => if mb s b then sh (t i b) else 0) b, nI b)) (fun _ => h) n (by omega) (fun b hb ag' => ?_) (fun ag' => ?_)).trans (b := ag (X ||| orI (fun b => if mb s b then sh (t i b) else 0) n, nI i + 1) h) ?_
      · have hc2 : ¬ n ≤ b := by omega
        simp (disch := omega) only [xg, xnn_s, xb_v, xb_x, xlt_d, xjn_d, if_true, if_false, eq_self, and_self, and_true, true_and, not_true, not_false_iff, ne_eq, true_or, or_true, or_false, false_or, l1, t1, nI_leP, hc2, FX8_isIn_v _ (show i < 32 by omega), FX8_isIn_v _ (show b < 32 by omega), bI_eq0, hm, reduceCtorEq, orF_s, FX2_product_v hL hT hi hb, sh_d, nI_s]
        cases mb s b
        · simp (disch := omega) only [xg, xnn_s, xb_v, xb_x, xlt_d, xjn_d, if_true, if_false, eq_self, and_self, and_true, true_and, not_true, not_false_iff, ne_eq, true_or, or_true, or_false, false_or, Bool.false_eq_true]
        · simp (disch := omega) only [xg, xnn_s, xb_v, xb_x, xlt_d, xjn_d, if_true, if_false, eq_self, and_self, and_true, true_and, not_true, not_false_iff, ne_eq, true_or, or_true, or_false, false_or, reduceCtorEq]
      · simp (disch := omega) only [xg, xnn_s, xb_v, xb_x, xlt_d, xjn_d, if_true, if_false, eq_self, and_self, and_true, true_and, not_true, not_false_iff, ne_eq, true_or, or_true, or_false, false_or, l1, t1, Int32.le_refl, orF_e]
      · rw [orI_s, hX, hm, nI_s]
        rfl
  · simp (disch := omega) only [xg, xnn_s, xb_v, xb_x, xlt_d, xjn_d, if_true, if_false, eq_self, and_self, and_true, true_and, not_true, not_false_iff, ne_eq, true_or, or_true, or_false, false_or, l1, t1, Int32.le_refl]
    rfl
/-- the least set with 0 and s that products keep -/
def lcl (n : Nat) (t : Nat → Nat → Nat) (s r : Int32) : Prop := inB n r ∧ sub (s ||| 1) r ∧ (∀ a b, a < n → b < n → mb r a = true → mb r b = true → mb r (t a b) = true) ∧ ∀ r', sub (s ||| 1) r' → (∀ a b, a < n → b < n → mb r' a = true → mb r' b = true → mb r' (t a b) = true) → sub r r'
theorem lcl_one {n : Nat} {t : Nat → Nat → Nat} {s r r' : Int32} (h : lcl n t s r) (h' : lcl n t s r') : r = r' := sub_antisymm (h.2.2.2 r' h'.2.1 h'.2.2.1) (h'.2.2.2 r h.2.1 h.2.2.1)
theorem pw_mb {n : Nat} {t : Nat → Nat → Nat} (ht : ∀ a b, a < n → b < n → t a b < n) (hn : n ≤ 8) (s : Int32) (k : Nat) : mb (pwS n t s) k = true ↔ ∃ a b, a < n ∧ b < n ∧ mb s a = true ∧ mb s b = true ∧ t a b = k := by
  unfold pwS
  rw [mb_orI, anyB_iff]
  constructor
  · rintro ⟨a, ha, h⟩
    cases hm : mb s a
    · rw [hm] at h; simp only [Bool.false_eq_true, if_false, mb_0] at h
    · rw [hm] at h
      simp only [if_true, mb_orI, anyB_iff] at h
      obtain ⟨b, hb, h⟩ := h
      cases hm2 : mb s b
      · rw [hm2] at h; simp only [Bool.false_eq_true, if_false, mb_0] at h
      · rw [hm2] at h
        have := ht a b ha hb
        simp only [if_true] at h
        rw [mb_sh (by omega), decide_eq_true_eq] at h
        exact ⟨a, b, ha, hb, hm, hm2, h.symm⟩
  · rintro ⟨a, b, ha, hb, h1, h2, h3⟩
    refine ⟨a, ha, ?_⟩
    rw [h1, if_pos rfl, mb_orI, anyB_iff]
    refine ⟨b, hb, ?_⟩
    have := ht a b ha hb
    rw [h2, if_pos rfl, mb_sh (by omega), h3]
    simp
theorem cl_in {n : Nat} {t : Nat → Nat → Nat} (ht : ∀ a b, a < n → b < n → t a b < n) (h0 : 0 < n) (hn : n ≤ 8) {s : Int32} (hs : inB n s) (i : Nat) : inB n (clW n t s i) := by
  induction i with
  | zero =>
    intro k hk
    show mb (s ||| 1) k = false
    rw [mb_or, hs k hk, mb_1]
    simp; omega
  | succ i ih =>
    intro k hk
    show mb (clW n t s i ||| pwS n t (clW n t s i)) k = false
    rw [mb_or, ih k hk, Bool.false_or]
    cases hp : mb (pwS n t (clW n t s i)) k
    · rfl
    · obtain ⟨a, b, ha, hb, -, -, e⟩ := (pw_mb ht hn _ k).mp hp
      have := ht a b ha hb
      omega
theorem cl_up {n : Nat} {t : Nat → Nat → Nat} (s : Int32) (i : Nat) : sub (clW n t s i) (clW n t s (i + 1)) := fun k hk => by
  show mb (clW n t s i ||| pwS n t (clW n t s i)) k = true
  rw [mb_or, hk]; rfl
theorem cl_up0 {n : Nat} {t : Nat → Nat → Nat} (s : Int32) (i : Nat) : sub (s ||| 1) (clW n t s i) := by
  induction i with
  | zero => exact fun k hk => hk
  | succ i ih => exact fun k hk => cl_up s i k (ih k hk)
theorem cl_least {n : Nat} {t : Nat → Nat → Nat} (ht : ∀ a b, a < n → b < n → t a b < n) (hn : n ≤ 8) (s : Int32) {r' : Int32} (h1 : sub (s ||| 1) r') (h2 : ∀ a b, a < n → b < n → mb r' a = true → mb r' b = true → mb r' (t a b) = true) (i : Nat) : sub (clW n t s i) r' := by
  induction i with
  | zero => exact h1
  | succ i ih =>
    intro k hk
    have hk2 : mb (clW n t s i ||| pwS n t (clW n t s i)) k = true := hk
    rw [mb_or, Bool.or_eq_true] at hk2
    rcases hk2 with q | q
    · exact ih k q
    · obtain ⟨a, b, ha, hb, h3, h4, e⟩ := (pw_mb ht hn _ k).mp q
      rw [← e]
      exact h2 a b ha hb (ih a h3) (ih b h4)
theorem first_of {P : Nat → Prop} [DecidablePred P] : ∀ {k : Nat}, P k → ∃ j, j ≤ k ∧ P j ∧ ∀ i, i < j → ¬ P i := by
  intro k
  induction k using Nat.strongRecOn with
  | _ k ih =>
    intro hk
    by_cases e : ∃ i, i < k ∧ P i
    · obtain ⟨i, hi, hp⟩ := e
      obtain ⟨j, j1, j2, j3⟩ := ih i hi hp
      exact ⟨j, by omega, j2, j3⟩
    · exact ⟨k, Nat.le_refl _, hk, fun i hi hp => e ⟨i, hi, hp⟩⟩
theorem FX2_closure_v (hL : GL h A) (hT : GT h A n t) {s : Int32} (hs : inB n s) : ∃ r, FX2_closure E A s h = xv r h ∧ lcl n t s r := by
  have l1 := hL.1
  have hT2 := hT
  obtain ⟨t1, t2, t3, t4⟩ := hT2
  have ht : ∀ a b, a < n → b < n → t a b < n := fun a b ha hb => (t4 a b ha hb).2
  obtain ⟨k0, hk0, hst⟩ := chain_stop (clW n t s) n (cl_up s) (cl_in ht t2 t3 hs)
  have hone : 1 ≤ cnt (clW n t s 0) n := by
    have h1 : cnt (clW n t s 0) 1 = 1 := by
      show cnt _ 0 + (if mb (s ||| 1) 0 then 1 else 0) = 1
      rw [mb_or, mb_1]; simp [cnt]
    have h2 : ∀ m, 1 ≤ m → 1 ≤ cnt (clW n t s 0) m := by
      intro m hm
      induction m with
      | zero => omega
      | succ m ih =>
        by_cases e : m = 0
        · subst e; exact Nat.le_of_eq h1.symm
        · have := ih (by omega)
          unfold cnt; omega
    exact h2 n t2
  obtain ⟨k, k1, k2, k3⟩ := first_of (P := fun k => clW n t s (k + 1) = clW n t s k) hst
  refine ⟨clW n t s (k + 1), ?_, cl_in ht t2 t3 hs _, cl_up0 s _, ?_, fun r' h1 h2 => cl_least ht t3 s h1 h2 _⟩
  · unfold FX2_closure
    simp (disch := omega) only [xg, xnn_s, xb_v, xb_x, xlt_d, xjn_d, if_true, if_false, eq_self, and_self, and_true, true_and, not_true, not_false_iff, ne_eq, true_or, or_true, or_false, false_or]
    refine xlp_all (fun i => (clW n t s i, (if i = 0 then 0 else clW n t s (i - 1)), nI i)) (fun _ => h) (k + 1) (by omega) (fun i hi ag => ?_) (fun ag => ?_)
    · have hc : ¬ 8 < i := by omega
      have hne : ¬ clW n t s i = (if i = 0 then 0 else clW n t s (i - 1)) := by
        by_cases e : i = 0
        · subst e
          rw [if_pos rfl]
          intro q
          have h2 := cl_up0 (n := n) (t := t) s 0 0 (by rw [mb_or, mb_1]; simp)
          rw [q, mb_0] at h2
          cases h2
        · rw [if_neg e]
          have := k3 (i - 1) (by omega)
          rw [show i - 1 + 1 = i by omega] at this
          exact this
      simp (disch := omega) only [xg, xnn_s, xb_v, xb_x, xlt_d, xjn_d, if_true, if_false, eq_self, and_self, and_true, true_and, not_true, not_false_iff, ne_eq, true_or, or_true, or_false, false_or, li8, nI_ltP, hc, hne, l1, FX2_productsWithin_v hL hT, nI_s]
      have e0 : ¬ i + 1 = 0 := by omega
      rw [if_neg e0, show i + 1 - 1 = i by omega]
      rfl
    · have e0 : ¬ k + 1 = 0 := by omega
      have e1 : clW n t s (k + 1) = (if k + 1 = 0 then 0 else clW n t s (k + 1 - 1)) := by rw [if_neg e0, show k + 1 - 1 = k by omega]; exact k2
      by_cases hc : 8 < k + 1
      · simp (disch := omega) only [xg, xnn_s, xb_v, xb_x, xlt_d, xjn_d, if_true, if_false, eq_self, and_self, and_true, true_and, not_true, not_false_iff, ne_eq, true_or, or_true, or_false, false_or, li8, nI_ltP, hc]
      · simp (disch := omega) only [li8, nI_ltP, hc, xjn_d, if_false, ← e1, if_true]
  · intro a b ha hb h3 h4
    rw [k2] at h3 h4
    show mb (clW n t s k ||| pwS n t (clW n t s k)) (t a b) = true
    rw [mb_or, (pw_mb ht t3 _ _).mpr ⟨a, b, ha, hb, h3, h4, rfl⟩, Bool.or_true]
end GRP
