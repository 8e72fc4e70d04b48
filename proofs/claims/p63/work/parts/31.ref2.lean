/-! The reference's modules: reasons, kernels, classes, orders, which are alike. -/
set_option linter.unusedVariables false
theorem ite_an {α : Type} (p : Bool) (x y : α) (a b : Nat) (h : p = decide (¬ a = b)) : (if a = b then x else y) = if p then y else x := by
  subst h
  by_cases e : a = b
  · simp [e]
  · simp [e]
def yb2 (d : MD) (g : Nat) : Bool := anyB (dnu d) fun a => anyB (dnu d) fun b => (decide (¬ a = b) && decide (dac d g a = dac d g b)) || decide (¬ dac d g (dtu d a b) = dtu d (dac d g a) (dac d g b))
def yb3 (d : MD) : Bool := anyB (dnu d) fun a => decide (¬ dac d 0 a = a) || anyB (dnl d) fun g => anyB (dnl d) fun k => decide (¬ dac d (dtl d g k) a = dac d g (dac d k a))
theorem yb2_eq (d : MD) (g : Nat) : yb2 d g = b2S d g := by
  rw [Bool.eq_iff_iff]
  unfold yb2 b2S
  rw [Bool.or_eq_true, anyB_iff, anyB_iff, anyB_iff]
  constructor
  · rintro ⟨a, ha, h⟩
    obtain ⟨b, hb, h⟩ := anyB_iff.mp h
    rw [Bool.or_eq_true, Bool.and_eq_true, decide_eq_true_eq, decide_eq_true_eq, decide_eq_true_eq] at h
    rcases h with ⟨h1, h2⟩ | h
    · left
      rcases Nat.lt_or_gt_of_ne h1 with q | q
      · exact ⟨b, hb, anyB_iff.mpr ⟨a, q, by simp [h2]⟩⟩
      · exact ⟨a, ha, anyB_iff.mpr ⟨b, q, by simp [h2]⟩⟩
    · right
      exact ⟨a, ha, anyB_iff.mpr ⟨b, hb, by simpa using h⟩⟩
  · rintro (⟨a, ha, h⟩ | ⟨a, ha, h⟩)
    · obtain ⟨b, hb, h⟩ := anyB_iff.mp h
      have h : dac d g b = dac d g a := by simpa using h
      refine ⟨a, ha, anyB_iff.mpr ⟨b, by omega, ?_⟩⟩
      have : ¬ a = b := by omega
      simp [h, this]
    · obtain ⟨b, hb, h⟩ := anyB_iff.mp h
      refine ⟨a, ha, anyB_iff.mpr ⟨b, hb, ?_⟩⟩
      rw [Bool.or_eq_true]
      right
      simpa using h
theorem yb3_eq (d : MD) : yb3 d = b3S d := by
  rw [Bool.eq_iff_iff]
  unfold yb3 b3S
  rw [Bool.or_eq_true, anyB_iff, anyB_iff, anyB_iff]
  constructor
  · rintro ⟨a, ha, h⟩
    rw [Bool.or_eq_true] at h
    rcases h with h | h
    · left
      exact ⟨a, ha, by simpa using h⟩
    · right
      obtain ⟨g, hg, h⟩ := anyB_iff.mp h
      obtain ⟨k, hk, h⟩ := anyB_iff.mp h
      exact ⟨g, hg, anyB_iff.mpr ⟨k, hk, anyB_iff.mpr ⟨a, ha, by simpa using h⟩⟩⟩
  · rintro (⟨a, ha, h⟩ | ⟨g, hg, h⟩)
    · refine ⟨a, ha, ?_⟩
      rw [Bool.or_eq_true]
      left
      simpa using h
    · obtain ⟨k, hk, h⟩ := anyB_iff.mp h
      obtain ⟨a, ha, h⟩ := anyB_iff.mp h
      refine ⟨a, ha, ?_⟩
      rw [Bool.or_eq_true]
      right
      exact anyB_iff.mpr ⟨g, hg, anyB_iff.mpr ⟨k, hk, by simpa using h⟩⟩
theorem img_mb {d : MD} (w : Wd d) (c : Nat) : mb (imgS d) c = anyB (dnu d) fun a => decide (c = dbd d a) := by
  unfold imgS
  rw [mb_orI]
  refine anyB_congr fun a ha => ?_
  have := w.2.2.2.2.2.1 a ha
  have := w.1.2.2.2
  rw [mb_sh (by omega)]
theorem cst_img {d : MD} (w : Wd d) (g x : Nat) : (anyB (dnl d) fun c => mb (imgS d) c && decide (dtl d g c = x)) = cst d g x := by
  rw [Bool.eq_iff_iff, cst_iff, anyB_iff]
  constructor
  · rintro ⟨c, hc, h⟩
    rw [Bool.and_eq_true, img_mb w, anyB_iff, decide_eq_true_eq] at h
    obtain ⟨⟨a, ha, h1⟩, h2⟩ := h
    rw [decide_eq_true_eq] at h1
    exact ⟨a, ha, by rw [← h1]; exact h2⟩
  · rintro ⟨a, ha, h⟩
    refine ⟨dbd d a, w.2.2.2.2.2.1 a ha, ?_⟩
    rw [Bool.and_eq_true, img_mb w, anyB_iff, decide_eq_true_eq]
    exact ⟨⟨a, ha, by simp⟩, h⟩
theorem alS_refl (d : MD) : alS d d = true := by
  unfold alS
  rw [anyB_f.mpr (fun i hi => by simp)]
  rfl
/-- the classes lie in the reference's rows -/
def YC (h : XH) (Y : Nat) (d : MD) : Prop := (∀ x, x < dnl d → xi h (Y + 22) x = nI (nmS d x)) ∧ ∀ a, a < ccN d → xi h (Y + 21) a = nI (lsS d a)
section YMS
variable {E : XG} {h : XH} {Y m u l : Nat} {d : MD}
end YMS
