/-! Reckoning with the functions: loops, ints. -/
set_option linter.unusedVariables false
theorem xg_t {α : Type} {c : Prop} [Decidable c] {m : XP α} (h : c) : xg c m = m := if_pos h
theorem xb_v {α β : Type} (a : α) (h : XH) (f : α → XH → XP β) : xb (xv a h) f = f a h := rfl
theorem xb_x {α β : Type} (c : Nat) (h : XH) (f : α → XH → XP β) : xb (xx c h) f = xx c h := rfl
theorem xb_eq {α β : Type} {m : XP α} {a : α} {h : XH} (e : m = xv a h) (f : α → XH → XP β) : xb m f = f a h := by rw [e]; rfl
theorem xnn_e {α : Type} {o : Option Nat} {w : Nat} (e : o = some w) (f : Nat → XP α) : xnn o f = f w := by rw [e]; rfl
theorem xnn_s {α : Type} (w : Nat) (f : Nat → XP α) : xnn (some w) f = f w := rfl
theorem xlt_d {α β : Type} (v : β) (f : β → XP α) : xlt v f = f v := rfl
theorem xjn_d {α δ : Type} (k : δ) (f : δ → XP α) : xjn k f = f k := rfl
/-- a loop that runs from 0 to n -/
theorem xlp_for {σ α : Type} {body : (σ → XH → XP α) → σ → XH → XP α} (st : Nat → σ) (hp : Nat → XH) (n : Nat) {R : XP α} (hs : ∀ i, i < n → ∀ ag, body ag (st i) (hp i) = ag (st (i + 1)) (hp (i + 1))) (he : ∀ ag, body ag (st n) (hp n) = R) :
    ∀ (f i : Nat), i ≤ n → n - i < f → xlp body f (st i) (hp i) = R := by
  intro f
  induction f with
  | zero => intro i h1 h2; omega
  | succ f ih =>
    intro i h1 h2
    show body (xlp body f) (st i) (hp i) = R
    by_cases e : i = n
    · subst e; exact he _
    · rw [hs i (by omega)]
      exact ih (i + 1) (by omega) (by omega)
/-- the same, where a test may end it -/
theorem xlp_find {σ α : Type} {body : (σ → XH → XP α) → σ → XH → XP α} (st : Nat → σ) (h : XH) (n : Nat) (P : Nat → Bool) {R1 R2 : XP α} (hs : ∀ i, i < n → ∀ ag, body ag (st i) h = if P i then R1 else ag (st (i + 1)) h) (he : ∀ ag, body ag (st n) h = R2) :
    ∀ (f i : Nat), i ≤ n → n - i < f → xlp body f (st i) h = if (List.range' i (n - i)).any P then R1 else R2 := by
  intro f
  induction f with
  | zero => intro i h1 h2; omega
  | succ f ih =>
    intro i h1 h2
    show body (xlp body f) (st i) h = _
    by_cases e : i = n
    · subst e; rw [he]; simp
    · rw [hs i (by omega), ih (i + 1) (by omega) (by omega)]
      have e1 : n - i = (n - (i + 1)) + 1 := by omega
      rw [e1, List.range'_succ, List.any_cons]
      cases P i
      · rw [Bool.false_or]; rfl
      · rw [Bool.true_or]; rfl
def anyB (n : Nat) (P : Nat → Bool) : Bool := (List.range n).any P
theorem xlp_any {σ α : Type} {body : (σ → XH → XP α) → σ → XH → XP α} (st : Nat → σ) (h : XH) (n : Nat) (P : Nat → Bool) {R1 R2 : XP α} (hn : n < 9000) (hs : ∀ i, i < n → ∀ ag, body ag (st i) h = if P i then R1 else ag (st (i + 1)) h) (he : ∀ ag, body ag (st n) h = R2) : xlp body xfu (st 0) h = if anyB n P then R1 else R2 := by
  rw [xlp_find st h n P hs he xfu 0 (by omega) (by unfold xfu; omega), anyB, List.range_eq_range']
  rfl
theorem xlp_all {σ α : Type} {body : (σ → XH → XP α) → σ → XH → XP α} (st : Nat → σ) (hp : Nat → XH) (n : Nat) {R : XP α} (hn : n < 9000) (hs : ∀ i, i < n → ∀ ag, body ag (st i) (hp i) = ag (st (i + 1)) (hp (i + 1))) (he : ∀ ag, body ag (st n) (hp n) = R) : xlp body xfu (st 0) (hp 0) = R :=
  xlp_for st hp n hs he xfu 0 (by omega) (by unfold xfu; omega)
/-- a flag in the state ends the loop -/
theorem xlp_flag {σ α : Type} {body : (σ → XH → XP α) → σ → XH → XP α} (st0 st1 : Nat → σ) (h : XH) (n : Nat) (P : Nat → Bool) {R1 R2 : XP α} (hn : n < 9000) (hs : ∀ i, i < n → ∀ ag, body ag (st1 i) h = if P i then ag (st0 (i + 1)) h else ag (st1 (i + 1)) h) (h0 : ∀ i, i ≤ n → ∀ ag, body ag (st0 i) h = R1) (he : ∀ ag, body ag (st1 n) h = R2) : xlp body xfu (st1 0) h = if anyB n P then R1 else R2 := by
  have key : ∀ (f i : Nat), i ≤ n → n - i + 1 < f → xlp body f (st1 i) h = if (List.range' i (n - i)).any P then R1 else R2 := by
    intro f
    induction f with
    | zero => intro i h1 h2; omega
    | succ f ih =>
      intro i h1 h2
      show body (xlp body f) (st1 i) h = _
      by_cases e : i = n
      · subst e; rw [he]; simp
      · rw [hs i (by omega), ih (i + 1) (by omega) (by omega)]
        have e0 : xlp body f (st0 (i + 1)) h = R1 := by
          match f, h2 with
          | f + 1, _ => exact h0 (i + 1) (by omega) _
        have e1 : n - i = (n - (i + 1)) + 1 := by omega
        rw [e1, List.range'_succ, List.any_cons, e0]
        cases P i
        · rw [Bool.false_or]; rfl
        · rw [Bool.true_or]; rfl
  rw [key xfu 0 (by omega) (by unfold xfu; omega), anyB, List.range_eq_range']
  rfl
/-- ors of n numbers -/
def orI (f : Nat → Int32) : Nat → Int32
  | 0 => 0
  | n + 1 => orI f n ||| f n
def sh (k : Nat) : Int32 := 1 <<< (nI k &&& 31)
theorem xz_nI {n : Nat} (h : n < 2 ^ 31) : (nI n).toNatClampNeg = n := nI_clamp h
theorem nI_le_iff {a b : Nat} (ha : a < 2 ^ 31) (hb : b < 2 ^ 31) : nI a ≤ nI b ↔ a ≤ b := by
  constructor
  · intro h
    by_cases e : a ≤ b
    · exact e
    · exact absurd h (nI_ge (by omega) ha)
  · intro h; exact nI_le h hb
theorem nI_lt_iff {a b : Nat} (ha : a < 2 ^ 31) (hb : b < 2 ^ 31) : nI a < nI b ↔ a < b := by
  constructor
  · intro h
    by_cases e : a < b
    · exact e
    · exact absurd h (nI_nlt (by omega) ha)
  · intro h; exact nI_lt h hb
theorem xin_nI {k n : Nat} (hk : k < n) (hn : n < 2 ^ 31) : xin (nI k) n := ⟨by rw [← nI_0, nI_le_iff (by omega) (by omega)]; omega, by rw [xz_nI (by omega)]; exact hk⟩
theorem FX8_at_in {E : XG} {a n k : Nat} {h : XH} (hk : xk h a = 12) (hn : xn h a = n) (h1 : k < n) (h2 : n < 2 ^ 31) : FX8_at E a (nI k) h = xv (xi h a k) h := by
  have e1 : ¬ (nI k < (0 : Int32)) := by rw [← nI_0, nI_lt_iff (by omega) (by omega)]; omega
  have e2 : ¬ (Int32.ofNat (xn h a) ≤ nI k) := by rw [hn]; show ¬ (nI n ≤ nI k); rw [nI_le_iff h2 (by omega)]; omega
  unfold FX8_at
  simp only [xjn_d, if_neg e1, if_neg e2]
  rw [xg_t hk, xg_t ⟨hk, by rw [hn]; exact xin_nI h1 h2⟩, xz_nI (by omega)]
theorem xin_t {k n : Nat} (hk : k < n) (hn : n < 2 ^ 31) : xin (nI k) n = True := eq_true (xin_nI hk hn)
theorem nI_lt0 {k : Nat} (hk : k < 2 ^ 31) : (nI k < (0 : Int32)) = False := eq_false (by rw [← nI_0, nI_lt_iff hk (by omega)]; omega)
theorem nI_0le {k : Nat} (hk : k < 2 ^ 31) : ((0 : Int32) ≤ nI k) = True := eq_true (by rw [← nI_0, nI_le_iff (by omega) hk]; omega)
theorem nI_eq0 {k : Nat} (hk : k < 2 ^ 31) : (nI k = (0 : Int32)) = (k = 0) := propext (by rw [← nI_0, nI_eq hk (by omega)])
theorem nI_leP {a b : Nat} (ha : a < 2 ^ 31) (hb : b < 2 ^ 31) : (nI a ≤ nI b) = (a ≤ b) := propext (nI_le_iff ha hb)
theorem nI_ltP {a b : Nat} (ha : a < 2 ^ 31) (hb : b < 2 ^ 31) : (nI a < nI b) = (a < b) := propext (nI_lt_iff ha hb)
theorem nI_eqP {a b : Nat} (ha : a < 2 ^ 31) (hb : b < 2 ^ 31) : (nI a = nI b) = (a = b) := propext (nI_eq ha hb)
theorem ofNat_nI (n : Nat) : Int32.ofNat n = nI n := rfl
theorem li0 : (0 : Int32) = nI 0 := rfl
theorem li1 : (1 : Int32) = nI 1 := rfl
theorem li2 : (2 : Int32) = nI 2 := rfl
theorem li3 : (3 : Int32) = nI 3 := rfl
theorem li4 : (4 : Int32) = nI 4 := rfl
theorem li5 : (5 : Int32) = nI 5 := rfl
theorem li6 : (6 : Int32) = nI 6 := rfl
theorem li7 : (7 : Int32) = nI 7 := rfl
theorem li8 : (8 : Int32) = nI 8 := rfl
theorem li10 : (10 : Int32) = nI 10 := rfl
theorem li64 : (64 : Int32) = nI 64 := rfl
theorem nI_s (a : Nat) : nI a + 1 = nI (a + 1) := nI_add a 1
theorem nI_a (a b : Nat) : nI a + nI b = nI (a + b) := nI_add a b
theorem nI_m (a b : Nat) : nI a * nI b = nI (a * b) := pk_mul a b
theorem nI_8 (a b : Nat) : nI a * 8 + nI b = nI (8 * a + b) := by rw [li8, nI_m, nI_a, Nat.mul_comm]
theorem nI_8' (a b : Nat) : (8 : Int32) * nI a + nI b = nI (8 * a + b) := by rw [li8, nI_m, nI_a]
theorem or_0 (x : Int32) : x ||| 0 = x := by
  apply Int32.toBitVec_inj.mp
  simp
theorem orI_s (f : Nat → Int32) (n : Nat) : orI f (n + 1) = orI f n ||| f n := rfl
theorem sh_d (k : Nat) : (1 : Int32) <<< (nI k &&& 31) = sh k := rfl
theorem bI_t : bI true = 1 := rfl
theorem bI_f : bI false = 0 := rfl
theorem i1_0 : ((1 : Int32) = 0) = False := eq_false (by decide)
theorem ite_ag {α β : Type} {c : Prop} [Decidable c] (f : β → α) (x y : β) : (if c then f x else f y) = f (if c then x else y) := by split <;> rfl
