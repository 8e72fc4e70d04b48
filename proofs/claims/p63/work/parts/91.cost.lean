/-! What the constructors make. -/
set_option linter.unusedVariables false
/-- whoever ends with a value, ends so -/
def xz {α : Type} (m : XP α) (Q : XH → Prop) : Prop := ∀ v h', m = some (.inl v, h') → Q h'
def zc (h0 : XH) (c u : Nat) (h : XH) : Prop := xc h = xc h0 + c ∧ xu h = xu h0 + u
theorem xz_g {α : Type} {c : Prop} [Decidable c] {m : XP α} {Q : XH → Prop} (hm : xz m Q) : xz (xg c m) Q := fun v h' e => by
  unfold xg at e
  split at e
  · exact hm v h' e
  · cases e
theorem xz_n {α : Type} {o : Option Nat} {f : Nat → XP α} {Q : XH → Prop} (hm : ∀ w, xz (f w) Q) : xz (xnn o f) Q := fun v h' e => by
  cases o with
  | none => cases e
  | some w => exact hm w v h' e
theorem xz_v {α : Type} {a : α} {h : XH} {Q : XH → Prop} (q : Q h) : xz (xv a h) Q := fun v h' e => by
  cases e
  exact q
theorem xz_b0 {α β : Type} {m : XP α} {f : α → XH → XP β} {P Q : XH → Prop} (hm : xz m P) (hf : ∀ v h, P h → xz (f v h) Q) : xz (xb m f) Q := fun v h' e => by
  cases m with
  | none => cases e
  | some p =>
    obtain ⟨r, h1⟩ := p
    cases r with
    | inl a => exact hf a h1 (hm a h1 rfl) v h' e
    | inr c => cases e
section ZC
variable {α β : Type} {h0 h : XH} {c u : Nat} {Q : XH → Prop}
theorem xz_yr {a k : Nat} {x : Option Nat} {f : XH → XP α} (q : zc h0 c u h) (hm : ∀ h1, zc h0 c u h1 → xz (f h1) Q) : xz (xlt (yr h a k x) f) Q := hm _ q
theorem xz_yi {a k : Nat} {x : Int32} {f : XH → XP α} (q : zc h0 c u h) (hm : ∀ h1, zc h0 c u h1 → xz (f h1) Q) : xz (xlt (yi h a k x) f) Q := hm _ q
theorem xz_al {g n : Nat} {f : Nat → XH → XP α} (q : zc h0 c u h) (hm : ∀ w h1, zc h0 (c + 1) (u + yw g n) h1 → xz (f w h1) Q) : xz (xal h g n f) Q := hm _ _ ⟨by rw [xc_ya, q.1]; rfl, by rw [xu_ya, q.2, Nat.add_assoc]⟩
theorem xz_mg {n k : Nat} {f : Nat → XH → XP α} (q : zc h0 c u h) (hm : ∀ w h1, zc h0 (c + (1 + n)) (u + (n + n * k)) h1 → xz (f w h1) Q) : xz (xmg h n k f) Q := hm _ _ ⟨by rw [(ygr_c h n k n).1, q.1]; omega, by rw [(ygr_c h n k n).2, q.2]; omega⟩
theorem xz_b {m : XP α} {f : α → XH → XP β} {c1 u1 : Nat} (q : zc h0 c u h) (hm : xz m (zc h c1 u1)) (hf : ∀ v h1, zc h0 (c + c1) (u + u1) h1 → xz (f v h1) Q) : xz (xb m f) Q := xz_b0 hm (fun v h1 p => hf v h1 ⟨by rw [p.1, q.1]; omega, by rw [p.2, q.2]; omega⟩)
theorem zc_eq {c' u' : Nat} (q : zc h0 c u h) (e1 : c = c') (e2 : u = u') : zc h0 c' u' h := by subst e1; subst e2; exact q
end ZC
section INZ
variable {E : XG}
theorem FX0_init_z (t p1 : Nat) (h : XH) : xz (FX0_init E t p1 h) (zc h 2 16) := by
  unfold FX0_init
  have q : zc h 0 0 h := ⟨rfl, rfl⟩
  repeat (first | refine xz_yr q (fun _ q => ?_) | refine xz_yi q (fun _ q => ?_) | refine xz_al q (fun _ _ q => ?_) | refine xz_mg q (fun _ _ q => ?_) | refine xz_n (fun _ => ?_) | refine xz_g ?_)
  exact xz_v (zc_eq q (by decide +kernel) (by decide +kernel))
theorem FX2_init_z (t : Nat) (p1 : Int32) (h : XH) : xz (FX2_init E t p1 h) (zc h 2 72) := by
  unfold FX2_init
  have q : zc h 0 0 h := ⟨rfl, rfl⟩
  repeat (first | refine xz_yr q (fun _ q => ?_) | refine xz_yi q (fun _ q => ?_) | refine xz_al q (fun _ _ q => ?_) | refine xz_mg q (fun _ _ q => ?_) | refine xz_n (fun _ => ?_) | refine xz_g ?_)
  exact xz_v (zc_eq q (by decide +kernel) (by decide +kernel))
theorem FX4_init_z (t : Nat) (h : XH) : xz (FX4_init E t h) (zc h 4 34) := by
  unfold FX4_init
  have q : zc h 0 0 h := ⟨rfl, rfl⟩
  repeat (first | refine xz_yr q (fun _ q => ?_) | refine xz_yi q (fun _ q => ?_) | refine xz_al q (fun _ _ q => ?_) | refine xz_mg q (fun _ _ q => ?_) | refine xz_n (fun _ => ?_) | refine xz_g ?_)
  exact xz_v (zc_eq q (by decide +kernel) (by decide +kernel))
theorem FX1_init_z (t : Nat) (p1 : Int32) (p2 : Nat) (h : XH) : xz (FX1_init E t p1 p2 h) (zc h 7 111) := by
  unfold FX1_init
  have q : zc h 0 0 h := ⟨rfl, rfl⟩
  repeat (first | refine xz_yr q (fun _ q => ?_) | refine xz_yi q (fun _ q => ?_) | refine xz_al q (fun _ _ q => ?_) | refine xz_mg q (fun _ _ q => ?_) | refine xz_b q (FX4_init_z _ _) (fun _ _ q => ?_) | refine xz_n (fun _ => ?_) | refine xz_g ?_)
  exact xz_v (zc_eq q (by decide +kernel) (by decide +kernel))
theorem FX3_init_z (t : Nat) (p1 : Int32) (h : XH) : xz (FX3_init E t p1 h) (zc h 2 (2 * p1.toNatClampNeg)) := by
  unfold FX3_init
  have q : zc h 0 0 h := ⟨rfl, rfl⟩
  repeat (first | refine xz_yr q (fun _ q => ?_) | refine xz_yi q (fun _ q => ?_) | refine xz_al q (fun _ _ q => ?_) | refine xz_mg q (fun _ _ q => ?_) | refine xz_n (fun _ => ?_) | refine xz_g ?_)
  exact xz_v (zc_eq q rfl (by show 0 + p1.toNatClampNeg + p1.toNatClampNeg = _; omega))
theorem FX7_init_z (t : Nat) (h : XH) : xz (FX7_init E t h) (zc h 103 1402) := by
  unfold FX7_init
  have q : zc h 0 0 h := ⟨rfl, rfl⟩
  repeat (first | refine xz_yr q (fun _ q => ?_) | refine xz_yi q (fun _ q => ?_) | refine xz_al q (fun _ _ q => ?_) | refine xz_mg q (fun _ _ q => ?_) | refine xz_b q (FX0_init_z _ _ _) (fun _ _ q => ?_) | refine xz_b q (FX1_init_z _ _ _ _) (fun _ _ q => ?_) | refine xz_b q (FX2_init_z _ _ _) (fun _ _ q => ?_) | refine xz_b q (FX3_init_z _ _ _) (fun _ _ q => ?_) | refine xz_n (fun _ => ?_) | refine xz_g ?_)
  exact xz_v (zc_eq q (by decide +kernel) (by decide +kernel))
theorem FX8_init_z (t : Nat) (h : XH) : xz (FX8_init E t h) (zc h 222 9489) := by
  unfold FX8_init
  have q : zc h 0 0 h := ⟨rfl, rfl⟩
  repeat (first | refine xz_yr q (fun _ q => ?_) | refine xz_yi q (fun _ q => ?_) | refine xz_al q (fun _ _ q => ?_) | refine xz_mg q (fun _ _ q => ?_) | refine xz_b q (FX7_init_z _ _) (fun _ _ q => ?_) | refine xz_n (fun _ => ?_) | refine xz_g ?_)
  exact xz_v (zc_eq q (by decide +kernel) (by decide +kernel))
theorem xo_z {α : Type} {m : XP α} {P : α → XH → Prop} {Q : XH → Prop} (a : xo m P) (b : xz m Q) : xo m (fun v h' => P v h' ∧ Q h') := by
  obtain ⟨v, h', e, p⟩ := a
  exact ⟨v, h', e, p, b v h' e⟩
end INZ
