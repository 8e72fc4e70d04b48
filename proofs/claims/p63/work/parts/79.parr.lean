/-! The reference reads: errors, numbers, names; what it holds meanwhile. -/
set_option linter.unusedVariables false
/-- Q stays when only A is written -/
def StA (A : Nat → Nat → Prop) (Q : XH → Prop) : Prop := ∀ h h', fW A noR h h' → Q h → Q h'
/-- a number, or the least where there is an error -/
def vEr (e : ER) (lo v : Nat) : Nat := match e with
  | none => v
  | some _ => lo
/-- a name's letters, as its row has them -/
def RNm (h : XH) (Y : Nat) (S : SD) (s : Nat) : Prop := ∀ k i, k < scn S s → i < 10 → xi h (Y + 19) (10 * (6 * s + k) + i) = nI ((snn S s k).getD i 0)
def RNn (h : XH) (Y : Nat) (S : SD) (s : Nat) (w : List Nat) : Prop := ∀ i, i < 10 → xi h (Y + 19) (10 * (6 * s + scn S s) + i) = nI (w.getD i 0)
/-- where a new name is laid -/
def nY (Y : Nat) (S : SD) (s : Nat) : Nat → Nat → Prop := fun a j => oY Y a j ∨ (a = Y + 19 ∧ scn S s < mxS s ∧ 10 * (6 * s + scn S s) ≤ j ∧ j < 10 * (6 * s + scn S s) + 10)
section RSS
variable {E : XG} {h h' : XH} {Y i : Nat} {B : BF} {t : TK} {A : Nat → Nat → Prop} {er : ER} {Q : XH → Prop} {S : SD} {s9 : Nat}
theorem RTk_fw (k : RTk h Y B t) (w : fW A noR h h') (q : ∀ j, 21 ≤ j → j ≤ 24 → ¬ A Y j) : RTk h' Y B t := ⟨⟨(w.i (q _ (by omega) (by omega))).trans k.1.1, (w.i (q _ (by omega) (by omega))).trans k.1.2.1, (w.i (q _ (by omega) (by omega))).trans k.1.2.2⟩, fun z => (w.i (q _ (by omega) (by omega))).trans (k.2 z)⟩
/-- is the word the name k places behind pl -/
def nmP (h : XH) (Y : Nat) (B : BF) (t : TK) (pl k : Nat) : Bool := decide (tkK t = 1) && !anyB 10 (fun i => decide (¬ xi h (Y + 19) (10 * (pl + k) + i) = nI (if tkA t + i < tkB t then B.1 (tkA t + i) else 0)))
theorem nmP_e (w : WK B t) (nm : WNm S) {s : Nat} (hs : s < 3) (hr : RNm h Y S s) (k1 : tkK t = 1) : fi (scn S s) (nmP h Y B t (6 * s)) = nmI S s (wdT B t) := by
  have ok := wdT_ok w k1
  have key : ∀ k, k < scn S s → nmP h Y B t (6 * s) k = decide (snn S s k = wdT B t) := fun k hk => by
    have n := nm s k hs hk
    have e := names_eq n.1.2 ok.1.2 n.2 ok.2
    unfold nmP
    rw [decide_eq_true k1, Bool.true_and]
    have d256 : ∀ i, (wdT B t).getD i 0 < 256 := fun i => by
      rcases Nat.lt_or_ge i (wdT B t).length with z | z
      · have := ok.2 _ (gD_mem z); omega
      · rw [gD_ge z]; omega
    have d256' : ∀ i, (snn S s k).getD i 0 < 256 := fun i => by
      rcases Nat.lt_or_ge i (snn S s k).length with z | z
      · have := n.2 _ (gD_mem z); omega
      · rw [gD_ge z]; omega
    cases z : anyB 10 (fun i => decide (¬ xi h (Y + 19) (10 * (6 * s + k) + i) = nI (if tkA t + i < tkB t then B.1 (tkA t + i) else 0)))
    · have z := anyB_f.mp z
      symm
      show decide _ = true
      rw [decide_eq_true_eq, e]
      intro i hi
      have q := Decidable.not_not.mp (of_decide_eq_false (z i hi))
      rw [hr k i hk hi, ← wdT_get, nI_eqP (by have := d256' i; omega) (by have := d256 i; omega)] at q
      exact q
    · obtain ⟨i, hi, q⟩ := anyB_iff.mp z
      have q := of_decide_eq_true q
      symm
      show decide _ = false
      rw [decide_eq_false_iff_not, e]
      intro z2
      apply q
      rw [hr k i hk hi, ← wdT_get, z2 i hi]
  unfold nmI
  refine fi_eq (fi_le _ _) (fun i hi => ?_) (fun hk => ?_)
  · have := fi_le (scn S s) (fun k => decide (snn S s k = wdT B t))
    rw [key i (by omega)]
    exact fi_not (m := scn S s) (P := fun k => decide (snn S s k = wdT B t)) hi
  · rw [key _ hk]
    exact fi_yes (m := scn S s) (P := fun k => decide (snn S s k = wdT B t)) hk
theorem nmP_0 (k1 : ¬ tkK t = 1) (many pl : Nat) : fi many (nmP h Y B t pl) = many := by
  refine fi_eq (Nat.le_refl _) (fun i hi => ?_) (fun hk => by omega)
  show (decide (tkK t = 1) && _) = false
  rw [decide_eq_false k1, Bool.false_and]
theorem ks_e {s : Nat} (ws : WS S) (hs : s < 3) : 6 * s + scn S s ≤ 20 := by
  have mx := scn_mx ws hs
  have : ∀ s, s < 3 → 6 * s + mxS s ≤ 20 := by decide
  have := this s hs
  omega
end RSS
