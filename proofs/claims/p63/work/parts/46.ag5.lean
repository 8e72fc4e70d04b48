/-! Class and reference answer alike: arrows, ladders, accounts. -/
set_option linter.unusedVariables false
section AG
variable {E : XG} {h : XH} {X Y O : Nat} {Z : ZD}
theorem ow_up (S : SD) (b s : Int32) : sub s (owS S b s) := fld_up (fun a x => by
  split
  · exact sub_or
  · exact fun k hk => hk) s 0 (sna S) (by omega)
theorem ow_in {S : SD} (W : WS S) (b : Int32) {s : Int32} (hs : inB (snm S) s) : inB (snm S) (owS S b s) := by
  have h6 := W.1.2.1
  refine fld_in (P := inB (snm S)) (fun a x ha hx => ?_) hs (sna S) (Nat.le_refl _)
  obtain ⟨q1, q2⟩ := W.2.2.2 a ha
  by_cases c : (mb b a && (mb s (saf S a) || mb s (sao S a))) = true
  · rw [if_pos c]
    intro k hk
    rw [mb_or, mb_or, hx k hk, mb_sh (by omega), mb_sh (by omega)]
    simp
    omega
  · rw [if_neg c]; exact hx
theorem rc_s (S : SD) (b s : Int32) (i : Nat) : rcS S b s (i + 1) = owS S b (rcS S b s i) := rfl
/-- six steps reach no more than five -/
theorem rc_6 {S : SD} (W : WS S) (b : Int32) {m : Nat} (hm : m < snm S) : rcS S b (sh m) 6 = rcS S b (sh m) 5 := by
  have h6 := W.1.2.1
  have hin : ∀ i, inB (snm S) (rcS S b (sh m) i) := by
    intro i
    induction i with
    | zero => exact inB_sh hm (by omega)
    | succ i ih => exact ow_in W b ih
  obtain ⟨k, hk, hst⟩ := chain_stop (rcS S b (sh m)) (snm S) (fun i => ow_up S b _) hin
  have h1 : 1 ≤ cnt (rcS S b (sh m) 0) (snm S) := by
    show 1 ≤ cnt (sh m) (snm S)
    have e : cnt (0 ||| sh m) (snm S) = cnt 0 (snm S) + 1 := by
      rw [cnt_or 0 m (by omega), if_pos ⟨hm, mb_0 m⟩]
    have e2 : (0 : Int32) ||| sh m = sh m := mb_ext fun k _ => by rw [mb_or, mb_0, Bool.false_or]
    rw [e2] at e
    omega
  have s5 := fld_stable (g := owS S b) hst 5 (by omega)
  have s6 := fld_stable (g := owS S b) hst 6 (by omega)
  exact s6.trans s5.symm
def lkS (S : SD) (b : Int32) (m o : Nat) : Nat := fi 6 (fun k => mb (rcS S b (sh m) k) o)
def laS (S : SD) (b : Int32) (m o : Nat) : Int32 := if lkS S b m o < 6 then nI (lkS S b m o) else -1
theorem FX7_stepsBetween_v {w : Nat} {S : SD} {T : ST} (M : CI h w S T) {m o : Nat} (hm : m < snm S) (ho : o < snm S) (b : Int32) : FX7_stepsBetween E w (nI m) (nI o) b h = xv (laS S b m o) h := by
  have h6 := M.1.1.1.2.1
  have hle : lkS S b m o ≤ 6 := fi_le 6 (fun k => mb (rcS S b (sh m) k) o)
  unfold FX7_stepsBetween
  rw [xlt_d, sh_d]
  refine xlp_all (fun i => (rcS S b (sh m) i, nI i)) (fun _ => h) (lkS S b m o) (by omega) (fun i hi ag => ?_) (fun ag => ?_)
  · have h1 : mb (rcS S b (sh m) i) o = false := fi_not (P := fun k => mb (rcS S b (sh m) k) o) hi
    have hc : ¬ 6 ≤ i := by omega
    simp (disch := omega) only [↓xg, ↓reduceIte, ↓xjn_d, ↓xlt_d, eq_self, and_self, and_true, true_and, not_true, not_false_iff, ne_eq, true_or, or_true, or_false, false_or, nI_s, nI_leP, nI_eqP, li6, hc, ↓xb_eq (FX8_isIn_v (rcS S b (sh m) i) (show o < 32 by omega)), h1, bI_f, M.wl.1, ↓xb_eq (FX7_oneStepFrom_v M (rcS S b (sh m) i) b), rc_s]
  · unfold laS
    by_cases c : lkS S b m o < 6
    · have h1 : mb (rcS S b (sh m) (lkS S b m o)) o = true := fi_yes (P := fun k => mb (rcS S b (sh m) k) o) c
      have hc : ¬ 6 ≤ lkS S b m o := by omega
      simp (disch := omega) only [↓xg, ↓reduceIte, ↓xjn_d, ↓xlt_d, eq_self, and_self, and_true, true_and, not_true, not_false_iff, ne_eq, true_or, or_true, or_false, false_or, nI_s, nI_leP, nI_eqP, li6, hc, ↓xb_eq (FX8_isIn_v (rcS S b (sh m) (lkS S b m o)) (show o < 32 by omega)), h1, bI_t, i1_0, c]
    · have hc : 6 ≤ lkS S b m o := by omega
      simp (disch := omega) only [↓xg, ↓reduceIte, ↓xjn_d, ↓xlt_d, eq_self, and_self, and_true, true_and, not_true, not_false_iff, ne_eq, true_or, or_true, or_false, false_or, nI_s, nI_leP, nI_eqP, li6, hc, c]
end AG
