/-! The reference's tokens. -/
set_option linter.unusedVariables false
def RTk (h : XH) (Y : Nat) (B : BF) (t : TK) : Prop := (xi h Y 22 = nI (tkA t) ∧ xi h Y 21 = nI (tkB t) ∧ xi h Y 23 = nI (tkK t)) ∧ (tkK t = 2 → xi h Y 24 = nI (vlT B t))
def tY (Y : Nat) : Nat → Nat → Prop := fun a j => a = Y ∧ 21 ≤ j ∧ j ≤ 24
def oY (Y : Nat) : Nat → Nat → Prop := fun a j => a = Y ∧ 21 ≤ j ∧ j ≤ 26
section RLS
variable {E : XG} {h h' : XH} {Y p i : Nat} {B : BF} {t : TK} {A : Nat → Nat → Prop}
theorem fw_to (w : fW (tY Y) noR h h') : fW (oY Y) noR h h' := w.wide (fun a j q => ⟨q.1, q.2.1, by have := q.2.2; omega⟩) (fun a j q => q)
/-- what is seen at i is a byte from lo to hi -/
def snB (B : BF) (lo hi i : Nat) : Bool := decide (i < B.2) && (decide (lo ≤ B.1 i) && decide (B.1 i ≤ hi))
theorem sn_lt {b : Nat} (hb : b < 256) : (¬ nI b < 97 ∧ ¬ 122 < nI b) ↔ (decide (97 ≤ b) && decide (b ≤ 122)) = true := by
  rw [show (97 : Int32) = nI 97 from rfl, show (122 : Int32) = nI 122 from rfl, nI_ltP (by omega) (by omega), nI_ltP (by omega) (by omega), Bool.and_eq_true, decide_eq_true_eq, decide_eq_true_eq]
  omega
theorem sn_dg {b : Nat} (hb : b < 256) : (¬ nI b < 48 ∧ ¬ 57 < nI b) ↔ (decide (48 ≤ b) && decide (b ≤ 57)) = true := by
  rw [show (48 : Int32) = nI 48 from rfl, show (57 : Int32) = nI 57 from rfl, nI_ltP (by omega) (by omega), nI_ltP (by omega) (by omega), Bool.and_eq_true, decide_eq_true_eq, decide_eq_true_eq]
  omega
theorem snB_in {lo hi s k : Nat} (hs : s ≤ B.2) (h1 : s ≤ k) (h2 : k < rnE B lo hi s) : snB B lo hi k = true := by
  have q := rnE_in h1 h2
  have le := rnE_le (lo := lo) (hi := hi) hs
  unfold snB
  rw [decide_eq_true (show k < B.2 by omega), decide_eq_true q.1, decide_eq_true q.2]
  rfl
theorem snB_end {lo hi s : Nat} : snB B lo hi (rnE B lo hi s) = false := by
  unfold snB
  by_cases c : rnE B lo hi s < B.2
  · have q := rnE_end c
    rw [decide_eq_true c, Bool.true_and, Bool.and_eq_false_iff, decide_eq_false_iff_not, decide_eq_false_iff_not]
    omega
  · rw [decide_eq_false c, Bool.false_and]
theorem nI_pad : ∀ {b : Nat}, b < 256 → ¬ nI b = -1 := by
  have : ∀ b, b < 256 → ¬ nI b = -1 := by decide +kernel
  exact fun {b} hb => this b hb
end RLS
