/-! The reference's equivalences. -/
set_option linter.unusedVariables false
theorem cnt_or (X : Int32) (k : Nat) (hk : k < 31) : ∀ n, cnt (X ||| sh k) n = cnt X n + if k < n ∧ mb X k = false then 1 else 0 := by
  intro n
  induction n with
  | zero => rw [if_neg (by omega)]; rfl
  | succ n ih =>
    have e1 : cnt (X ||| sh k) (n + 1) = cnt (X ||| sh k) n + if mb (X ||| sh k) n then 1 else 0 := rfl
    have e2 : cnt X (n + 1) = cnt X n + if mb X n then 1 else 0 := rfl
    rw [e1, e2, ih, mb_or, mb_sh hk]
    by_cases q : n = k
    · subst q
      cases hm : mb X n <;> simp [hm]
    · have q1 : decide (n = k) = false := by simp [q]
      have q3 : (k < n + 1 ∧ mb X k = false) = (k < n ∧ mb X k = false) := by
        apply propext
        constructor
        · rintro ⟨z1, z2⟩; exact ⟨by omega, z2⟩
        · rintro ⟨z1, z2⟩; exact ⟨by omega, z2⟩
      rw [q1, Bool.or_false]
      simp only [q3]
      omega
theorem pk_cnt {d : MD} {K : Int32} {tp : Nat → Nat} {n : Nat} (ht : ∀ x, x < n → tp x < 8) : ∀ i, i ≤ n → cnt (toF d K tp i) 8 ≤ cnt K i ∧ (cnt (toF d K tp i) 8 = cnt K i ↔ anyB i (fun j => mb K j && mb (toF d K tp j) (tp j)) = false) := by
  intro i
  induction i with
  | zero =>
    intro _
    have e0 : toF d K tp 0 = 0 := rfl
    have e1 : ∀ n, cnt 0 n = 0 := by
      intro n
      induction n with
      | zero => rfl
      | succ n ih => show cnt 0 n + (if mb 0 n then 1 else 0) = 0; rw [ih, mb_0]; rfl
    rw [e0, e1]
    exact ⟨Nat.zero_le _, fun _ => rfl, fun _ => rfl⟩
  | succ i ih =>
    intro hi
    obtain ⟨h1, h2⟩ := ih (by omega)
    have h8 := ht i (by omega)
    have e1 : toF d K tp (i + 1) = toF d K tp i ||| (if mb K i then sh (tp i) else 0) := rfl
    have e2 : cnt K (i + 1) = cnt K i + if mb K i then 1 else 0 := rfl
    rw [anyB_s, e1, e2, Bool.or_eq_false_iff, ← h2]
    cases hm : mb K i
    · rw [if_neg (by decide), if_neg (by decide), or_0]
      exact ⟨h1, fun q => ⟨by omega, rfl⟩, fun q => by omega⟩
    · rw [if_pos rfl, if_pos rfl, cnt_or _ _ (by omega)]
      cases hb : mb (toF d K tp i) (tp i)
      · rw [if_pos ⟨h8, rfl⟩]
        exact ⟨by omega, fun q => ⟨by omega, rfl⟩, fun q => by omega⟩
      · rw [if_neg (fun z => by cases z.2)]
        exact ⟨by omega, fun q => by omega, fun q => by cases q.2⟩
theorem cnt_in {s : Int32} {m : Nat} (h : inB m s) : ∀ n, m ≤ n → cnt s n = cnt s m := by
  intro n hn
  induction n with
  | zero => rw [show m = 0 by omega]
  | succ n ih =>
    by_cases e : m = n + 1
    · rw [e]
    · show cnt s n + (if mb s n then 1 else 0) = _
      rw [h n (by omega), ih (by omega)]
      rfl
theorem ker_nu {d : MD} (w : Wd d) : inB (dnu d) (kerS d) := inB_orI fun i hi => inB_ite (inB_sh hi (by have := w.1.2.1; omega)) (inB_0 _)
theorem pk_iff {d e : MD} {tp : Nat → Nat} (w : Wd d) (ht : ∀ x, x < dnu d → tp x < 8) : cnt (toF d (kerS d) tp (dnu d)) 8 = cnt (kerS d) 8 ↔ pkS d (kerS d) tp = false := by
  rw [cnt_in (ker_nu w) 8 w.1.2.1]
  exact (pk_cnt ht (dnu d) (Nat.le_refl _)).2
section YMS
variable {E : XG} {h : XH} {Y m u l o v k a : Nat} {d e : MD} {tp bt : Nat → Nat}
theorem YC.iw {h h' : XH} {B : Nat → Prop} (c : YC h Y d) (w : iw B h h') (h1 : ¬ B (Y + 21)) (h2 : ¬ B (Y + 22)) : YC h' Y d :=
  ⟨fun x hx => by rw [w.i _ h2]; exact c.1 x hx, fun x hx => by rw [w.i _ h1]; exact c.2 x hx⟩
end YMS
