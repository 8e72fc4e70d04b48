/-! Sets as ints. -/
set_option linter.unusedVariables false
def mb (s : Int32) (k : Nat) : Bool := s.toBitVec.getLsbD k
theorem mb_or (a b : Int32) (k : Nat) : mb (a ||| b) k = (mb a k || mb b k) := by
  unfold mb
  rw [Int32.toBitVec_or, BitVec.getLsbD_or]
theorem mb_and (a b : Int32) (k : Nat) : mb (a &&& b) k = (mb a k && mb b k) := by
  unfold mb
  rw [Int32.toBitVec_and, BitVec.getLsbD_and]
theorem mb_xor (a b : Int32) (k : Nat) : mb (a ^^^ b) k = (mb a k ^^ mb b k) := by
  unfold mb
  rw [Int32.toBitVec_xor, BitVec.getLsbD_xor]
theorem mb_nI (m k : Nat) : mb (nI m) k = (decide (k < 32) && m.testBit k) := by
  unfold mb nI
  rw [show (Int32.ofNat m).toBitVec = BitVec.ofNat 32 m from rfl, BitVec.getLsbD_ofNat]
theorem mb_ge (a : Int32) {k : Nat} (h : 32 ≤ k) : mb a k = false := BitVec.getLsbD_of_ge _ _ h
theorem mb_ext {a b : Int32} (h : ∀ k, k < 32 → mb a k = mb b k) : a = b := Int32.toBitVec_inj.mp (BitVec.eq_of_getLsbD_eq h)
theorem mb_0 (k : Nat) : mb 0 k = false := by
  have := mb_nI 0 k
  rw [show nI 0 = 0 from rfl] at this
  rw [this, Nat.zero_testBit, Bool.and_false]
theorem sh_amt : ∀ k, k < 32 → ((nI k &&& 31).toBitVec.smod 32).toNat = k := by decide +kernel
theorem sh_eq {k : Nat} (h : k < 31) : sh k = nI (2 ^ k) := by
  unfold sh
  have h1 : (1 : Nat) * 2 ^ k < 2 ^ 32 := by
    rw [Nat.one_mul]
    exact Nat.pow_lt_pow_right (by omega) (by omega)
  have := pk_shlN (n := 1) (nI k &&& 31) k (sh_amt k (by omega)) h1
  rw [Nat.one_mul] at this
  exact this
theorem mb_sh {j : Nat} (h : j < 31) (k : Nat) : mb (sh j) k = decide (k = j) := by
  rw [sh_eq h, mb_nI, Nat.testBit_two_pow]
  by_cases e : j = k
  · subst e; simp; omega
  · have e2 : ¬ k = j := fun q => e q.symm
    simp [e, e2]
theorem mb_1 (k : Nat) : mb 1 k = decide (k = 0) := by
  have := mb_sh (j := 0) (by omega) k
  exact this
theorem and1 (x : Int32) : x &&& 1 = if mb x 0 then 1 else 0 := by
  rw [pk_and x (m := 1) 1 (by decide)]
  unfold mb
  rw [← BitVec.testBit_toNat, Nat.testBit_zero, show (2 : Nat) ^ 1 = 2 from rfl]
  have := Nat.mod_two_eq_zero_or_one x.toBitVec.toNat
  rcases this with e | e <;> rw [e] <;> rfl
theorem mb_shr (x : Int32) {k : Nat} (h : k < 32) : mb (x >>> (nI k &&& 31)) 0 = mb x k := by
  unfold mb
  rw [Int32.toBitVec_shiftRight]
  unfold BitVec.sshiftRight'
  rw [sh_amt k h, BitVec.getLsbD_sshiftRight]
  simp [h]
theorem isin_eq (x : Int32) {k : Nat} (h : k < 32) : (x >>> (nI k &&& 31)) &&& 1 = if mb x k then 1 else 0 := by rw [and1, mb_shr x h]
theorem FX8_isIn_v {E : XG} {h : XH} (p : Int32) {k : Nat} (hk : k < 32) : FX8_isIn E p (nI k) h = xv (bI (mb p k)) h := by
  unfold FX8_isIn
  rw [isin_eq p hk]
  cases mb p k
  · simp (disch := omega) only [xg, xnn_s, xb_v, xb_x, xlt_d, xjn_d, if_true, if_false, eq_self, and_self, and_true, true_and, not_true, not_false_iff, ne_eq, true_or, or_true, or_false, false_or, bI, Bool.false_eq_true]
  · simp (disch := omega) only [xg, xnn_s, xb_v, xb_x, xlt_d, xjn_d, if_true, if_false, eq_self, and_self, and_true, true_and, not_true, not_false_iff, ne_eq, true_or, or_true, or_false, false_or, bI, i1_0]
theorem anyB_s (n : Nat) (P : Nat → Bool) : anyB (n + 1) P = (anyB n P || P n) := by
  unfold anyB
  rw [List.range_succ, List.any_append]
  simp
theorem anyB_iff {n : Nat} {P : Nat → Bool} : anyB n P = true ↔ ∃ i, i < n ∧ P i = true := by
  unfold anyB
  simp [List.any_eq_true]
theorem anyB_f {n : Nat} {P : Nat → Bool} : anyB n P = false ↔ ∀ i, i < n → P i = false := by
  constructor
  · intro h i hi
    cases hp : P i
    · rfl
    · have := anyB_iff.mpr ⟨i, hi, hp⟩
      rw [h] at this; cases this
  · intro h
    cases ha : anyB n P
    · rfl
    · obtain ⟨i, hi, hp⟩ := anyB_iff.mp ha
      rw [h i hi] at hp; cases hp
theorem anyB_congr {n : Nat} {P Q : Nat → Bool} (h : ∀ i, i < n → P i = Q i) : anyB n P = anyB n Q := by
  cases hq : anyB n Q
  · exact anyB_f.mpr fun i hi => (h i hi).trans (anyB_f.mp hq i hi)
  · obtain ⟨i, hi, hp⟩ := anyB_iff.mp hq
    exact anyB_iff.mpr ⟨i, hi, (h i hi).trans hp⟩
theorem mb_orI (f : Nat → Int32) (n k : Nat) : mb (orI f n) k = anyB n (fun i => mb (f i) k) := by
  induction n with
  | zero => exact mb_0 k
  | succ n ih => rw [orI_s, mb_or, ih, anyB_s]
theorem orI_congr {f g : Nat → Int32} {n : Nat} (h : ∀ i, i < n → f i = g i) : orI f n = orI g n := by
  induction n with
  | zero => rfl
  | succ n ih => rw [orI_s, orI_s, ih (fun i hi => h i (by omega)), h n (by omega)]
/-- no bit from n on -/
def inB (n : Nat) (s : Int32) : Prop := ∀ k, n ≤ k → mb s k = false
def sub (a b : Int32) : Prop := ∀ k, mb a k = true → mb b k = true
theorem sub_antisymm {a b : Int32} (h1 : sub a b) (h2 : sub b a) : a = b := mb_ext fun k _ => by
  cases ha : mb a k
  · cases hb : mb b k
    · rfl
    · rw [h2 k hb] at ha; cases ha
  · rw [h1 k ha]
/-- how many of the first n bits -/
def cnt (s : Int32) : Nat → Nat
  | 0 => 0
  | n + 1 => cnt s n + if mb s n then 1 else 0
theorem cnt_le (s : Int32) (n : Nat) : cnt s n ≤ n := by
  induction n with
  | zero => exact Nat.le_refl _
  | succ n ih => unfold cnt; split <;> omega
theorem cnt_mono {a b : Int32} (h : sub a b) (n : Nat) : cnt a n ≤ cnt b n := by
  induction n with
  | zero => exact Nat.le_refl _
  | succ n ih =>
    unfold cnt
    cases ha : mb a n
    · simp; omega
    · rw [h n ha]; simp; exact ih
theorem cnt_lt {a b : Int32} (h : sub a b) {n k : Nat} (hk : k < n) (h1 : mb a k = false) (h2 : mb b k = true) : cnt a n < cnt b n := by
  induction n with
  | zero => omega
  | succ n ih =>
    unfold cnt
    by_cases e : k = n
    · subst e
      rw [h1, h2]
      have := cnt_mono h k
      simp; omega
    · have := ih (by omega)
      cases ha : mb a n
      · simp; omega
      · rw [h n ha]; simp; omega
theorem sub_ne {a b : Int32} {n : Nat} (hb : inB n b) (h : sub a b) (hne : a ≠ b) : ∃ k, k < n ∧ mb a k = false ∧ mb b k = true := by
  by_cases e : ∃ k, k < n ∧ mb a k = false ∧ mb b k = true
  · exact e
  · exfalso
    apply hne
    refine sub_antisymm h fun k hk => ?_
    cases ha : mb a k
    · exfalso
      apply e
      refine ⟨k, ?_, ha, hk⟩
      rcases Nat.lt_or_ge k n with q | q
      · exact q
      · rw [hb k q] at hk; cases hk
    · rfl
/-- a growing chain of sets of n bits stands still by step n -/
theorem chain_stop (f : Nat → Int32) (n : Nat) (h1 : ∀ i, sub (f i) (f (i + 1))) (h2 : ∀ i, inB n (f i)) : ∃ k, k ≤ n - cnt (f 0) n ∧ f (k + 1) = f k := by
  by_cases e : ∃ k, k ≤ n - cnt (f 0) n ∧ f (k + 1) = f k
  · exact e
  · exfalso
    have key : ∀ k, k ≤ n - cnt (f 0) n + 1 → k + cnt (f 0) n ≤ cnt (f k) n := by
      intro k
      induction k with
      | zero => intro _; omega
      | succ k ih =>
        intro hk
        have := ih (by omega)
        have hne : f k ≠ f (k + 1) := fun q => e ⟨k, by omega, q.symm⟩
        obtain ⟨j, j1, j2, j3⟩ := sub_ne (h2 (k + 1)) (h1 k) hne
        have := cnt_lt (h1 k) j1 j2 j3
        omega
    have h3 := key (n - cnt (f 0) n + 1) (Nat.le_refl _)
    have h4 := cnt_le (f (n - cnt (f 0) n + 1)) n
    have h5 := cnt_le (f 0) n
    omega
