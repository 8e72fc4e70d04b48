/-! A constructor doesn't look at the ints behind the heap's end. -/
set_option linter.unusedVariables false
/-- the same but for ints behind the end -/
def rq (h1 h2 : XH) : Prop := ∃ f, h1 = yf h2 f ∧ ∀ a j, a < xt h2 → f a j = xi h2 a j
/-- where the second ends with a value, the first does so -/
def si {α : Type} (m1 m2 : XP α) : Prop := ∀ v k2, m2 = some (.inl v, k2) → ∃ k1, m1 = some (.inl v, k1) ∧ rq k1 k2
section SIM
variable {α β : Type} {h1 h2 : XH}
theorem si_v {a : α} (q : rq h1 h2) : si (xv a h1) (xv a h2) := fun v k2 e => by
  cases e
  exact ⟨h1, rfl, q⟩
theorem si_g {c1 c2 : Prop} [Decidable c1] [Decidable c2] {m1 m2 : XP α} (e : c2 ↔ c1) (hm : si m1 m2) : si (xg c1 m1) (xg c2 m2) := fun v k2 y => by
  unfold xg at y ⊢
  split at y
  · rename_i hc
    rw [if_pos (e.mp hc)]
    exact hm v k2 y
  · cases y
theorem si_n {o1 o2 : Option Nat} {f1 f2 : Nat → XP α} (e : o1 = o2) (hm : ∀ w, si (f1 w) (f2 w)) : si (xnn o1 f1) (xnn o2 f2) := fun v k2 y => by
  subst e
  cases o1 with
  | none => cases y
  | some w => exact hm w v k2 y
theorem si_yr {a k : Nat} {x : Option Nat} {f1 f2 : XH → XP α} (q : rq h1 h2) (hm : ∀ k1 k2, rq k1 k2 → si (f1 k1) (f2 k2)) : si (xlt (yr h1 a k x) f1) (xlt (yr h2 a k x) f2) := by
  obtain ⟨f, rfl, hf⟩ := q
  exact hm _ _ ⟨f, rfl, hf⟩
theorem si_yi {a k : Nat} {x : Int32} {f1 f2 : XH → XP α} (q : rq h1 h2) (hm : ∀ k1 k2, rq k1 k2 → si (f1 k1) (f2 k2)) : si (xlt (yi h1 a k x) f1) (xlt (yi h2 a k x) f2) := by
  obtain ⟨f, rfl, hf⟩ := q
  refine hm _ _ ⟨fun b j => if b = a ∧ j = k then x else f b j, rfl, fun b j hb => ?_⟩
  show (if b = a ∧ j = k then x else f b j) = _
  rw [xi_yi]
  by_cases q : b = a ∧ j = k
  · rw [if_pos q, if_pos q]
  · rw [if_neg q, if_neg q]; exact hf b j hb
theorem rq_ya {g n : Nat} (q : rq h1 h2) : rq (ya h1 g n) (ya h2 g n) := by
  obtain ⟨f, rfl, hf⟩ := q
  refine ⟨fun b j => if b = xt h2 then 0 else f b j, rfl, fun b j hb => ?_⟩
  have hb : b < xt h2 + 1 := hb
  show (if b = xt h2 then 0 else f b j) = _
  rw [xi_ya]
  by_cases q : b = xt h2
  · rw [if_pos q, if_pos q]
  · rw [if_neg q, if_neg q]; exact hf b j (by omega)
theorem rq_yr {a k : Nat} {x : Option Nat} (q : rq h1 h2) : rq (yr h1 a k x) (yr h2 a k x) := by
  obtain ⟨f, rfl, hf⟩ := q
  exact ⟨f, rfl, hf⟩
theorem rq_t (q : rq h1 h2) : xt h1 = xt h2 := by
  obtain ⟨f, rfl, hf⟩ := q
  rfl
theorem rq_ygr (q : rq h1 h2) (n k : Nat) : ∀ i, rq (ygr h1 n k i) (ygr h2 n k i)
  | 0 => rq_ya q
  | i + 1 => by
    have r := rq_ygr q n k i
    have t := rq_t r
    have t0 := rq_t q
    show rq (yr (ya (ygr h1 n k i) 12 k) (xt h1) i (some (xt (ygr h1 n k i)))) (yr (ya (ygr h2 n k i) 12 k) (xt h2) i (some (xt (ygr h2 n k i))))
    rw [t, t0]
    exact rq_yr (rq_ya r)
theorem si_al {g n : Nat} {f1 f2 : Nat → XH → XP α} (q : rq h1 h2) (hm : ∀ w k1 k2, rq k1 k2 → si (f1 w k1) (f2 w k2)) : si (xal h1 g n f1) (xal h2 g n f2) := by
  have r := rq_ya (g := g) (n := n) q
  have t := rq_t q
  show si (f1 (xt h1) (ya h1 g n)) (f2 (xt h2) (ya h2 g n))
  rw [t]
  exact hm _ _ _ r
theorem si_mg {n k : Nat} {f1 f2 : Nat → XH → XP α} (q : rq h1 h2) (hm : ∀ w k1 k2, rq k1 k2 → si (f1 w k1) (f2 w k2)) : si (xmg h1 n k f1) (xmg h2 n k f2) := by
  have r := rq_ygr q n k n
  have t := rq_t q
  show si (f1 (xt h1) (ygr h1 n k n)) (f2 (xt h2) (ygr h2 n k n))
  rw [t]
  exact hm _ _ _ r
theorem si_b {m1 m2 : XP α} {f1 f2 : α → XH → XP β} (hm : si m1 m2) (hf : ∀ v k1 k2, rq k1 k2 → si (f1 v k1) (f2 v k2)) : si (xb m1 f1) (xb m2 f2) := fun v k2 y => by
  cases m2 with
  | none => cases y
  | some p =>
    obtain ⟨r, k3⟩ := p
    cases r with
    | inl a =>
      obtain ⟨k1, e1, r1⟩ := hm a k3 rfl
      rw [e1]
      exact hf a k1 k3 r1 v k2 y
    | inr c => cases y
end SIM
section SII
variable {E : XG} {h1 h2 : XH}
theorem FX0_init_s (q : rq h1 h2) (t p1 : Nat) : si (FX0_init E t p1 h1) (FX0_init E t p1 h2) := by
  unfold FX0_init
  repeat (first | refine si_yr q (fun _ _ q => ?_) | refine si_yi q (fun _ _ q => ?_) | refine si_al q (fun _ _ _ q => ?_) | refine si_mg q (fun _ _ _ q => ?_) | refine si_n (by obtain ⟨f, rfl, hf⟩ := q; exact rfl) (fun _ => ?_) | refine si_g (by obtain ⟨f, rfl, hf⟩ := q; exact Iff.rfl) ?_)
  exact si_v q
theorem FX2_init_s (q : rq h1 h2) (t : Nat) (p1 : Int32) : si (FX2_init E t p1 h1) (FX2_init E t p1 h2) := by
  unfold FX2_init
  repeat (first | refine si_yr q (fun _ _ q => ?_) | refine si_yi q (fun _ _ q => ?_) | refine si_al q (fun _ _ _ q => ?_) | refine si_mg q (fun _ _ _ q => ?_) | refine si_n (by obtain ⟨f, rfl, hf⟩ := q; exact rfl) (fun _ => ?_) | refine si_g (by obtain ⟨f, rfl, hf⟩ := q; exact Iff.rfl) ?_)
  exact si_v q
theorem FX4_init_s (q : rq h1 h2) (t : Nat) : si (FX4_init E t h1) (FX4_init E t h2) := by
  unfold FX4_init
  repeat (first | refine si_yr q (fun _ _ q => ?_) | refine si_yi q (fun _ _ q => ?_) | refine si_al q (fun _ _ _ q => ?_) | refine si_mg q (fun _ _ _ q => ?_) | refine si_n (by obtain ⟨f, rfl, hf⟩ := q; exact rfl) (fun _ => ?_) | refine si_g (by obtain ⟨f, rfl, hf⟩ := q; exact Iff.rfl) ?_)
  exact si_v q
theorem FX1_init_s (q : rq h1 h2) (t : Nat) (p1 : Int32) (p2 : Nat) : si (FX1_init E t p1 p2 h1) (FX1_init E t p1 p2 h2) := by
  unfold FX1_init
  repeat (first | refine si_yr q (fun _ _ q => ?_) | refine si_yi q (fun _ _ q => ?_) | refine si_al q (fun _ _ _ q => ?_) | refine si_mg q (fun _ _ _ q => ?_) | refine si_b (FX4_init_s q _) (fun _ _ _ q => ?_) | refine si_n (by obtain ⟨f, rfl, hf⟩ := q; exact rfl) (fun _ => ?_) | refine si_g (by obtain ⟨f, rfl, hf⟩ := q; exact Iff.rfl) ?_)
  exact si_v q
theorem FX3_init_s (q : rq h1 h2) (t : Nat) (p1 : Int32) : si (FX3_init E t p1 h1) (FX3_init E t p1 h2) := by
  unfold FX3_init
  repeat (first | refine si_yr q (fun _ _ q => ?_) | refine si_yi q (fun _ _ q => ?_) | refine si_al q (fun _ _ _ q => ?_) | refine si_mg q (fun _ _ _ q => ?_) | refine si_n (by obtain ⟨f, rfl, hf⟩ := q; exact rfl) (fun _ => ?_) | refine si_g (by obtain ⟨f, rfl, hf⟩ := q; exact Iff.rfl) ?_)
  exact si_v q
theorem FX7_init_s (q : rq h1 h2) (t : Nat) : si (FX7_init E t h1) (FX7_init E t h2) := by
  unfold FX7_init
  repeat (first | refine si_yr q (fun _ _ q => ?_) | refine si_yi q (fun _ _ q => ?_) | refine si_al q (fun _ _ _ q => ?_) | refine si_mg q (fun _ _ _ q => ?_) | refine si_b (FX0_init_s q _ _) (fun _ _ _ q => ?_) | refine si_b (FX1_init_s q _ _ _) (fun _ _ _ q => ?_) | refine si_b (FX2_init_s q _ _) (fun _ _ _ q => ?_) | refine si_b (FX3_init_s q _ _) (fun _ _ _ q => ?_) | refine si_n (by obtain ⟨f, rfl, hf⟩ := q; exact rfl) (fun _ => ?_) | refine si_g (by obtain ⟨f, rfl, hf⟩ := q; exact Iff.rfl) ?_)
  exact si_v q
theorem FX8_init_s (q : rq h1 h2) (t : Nat) : si (FX8_init E t h1) (FX8_init E t h2) := by
  unfold FX8_init
  repeat (first | refine si_yr q (fun _ _ q => ?_) | refine si_yi q (fun _ _ q => ?_) | refine si_al q (fun _ _ _ q => ?_) | refine si_mg q (fun _ _ _ q => ?_) | refine si_b (FX7_init_s q _) (fun _ _ _ q => ?_) | refine si_n (by obtain ⟨f, rfl, hf⟩ := q; exact rfl) (fun _ => ?_) | refine si_g (by obtain ⟨f, rfl, hf⟩ := q; exact Iff.rfl) ?_)
  exact si_v q
/-- the class's constructor, whatever lies behind the heap's end -/
theorem xinit_o {X : Nat} {h : XH} (ht : xt h = X + 1) (hk : xk h X = 9) (hz : ∀ j, xi h X j = 0) : xo (FX8_init E X h) (fun _ h' => (xt h' = X + 223 ∧ (∀ a, a < X → smC a h h') ∧ XI h' X (X + 2) (X + 106) 0 Z0) ∧ zc h 222 9489 h') := by
  refine xo_z ?_ (FX8_init_z X h)
  obtain ⟨g, eg⟩ : ∃ g : XH, g = yf h (fun a j => if a < xt h then xi h a j else 0) := ⟨_, rfl⟩
  have r : rq h g := ⟨h.2.2.1, by rw [eg]; rfl, fun a j ha => by
    rw [eg] at ha ⊢
    have ha : a < xt h := ha
    show xi h a j = if a < xt h then xi h a j else 0
    rw [if_pos ha]⟩
  have ig : ∀ a j, xi g a j = if a < xt h then xi h a j else 0 := fun a j => by rw [eg]; rfl
  obtain ⟨v, k2, e2, t2, l2, x2, -⟩ := FX8_init_o (E := E) (X := X) (h := g) (by rw [eg]; exact ht) (by rw [eg]; exact hk) (fun a j ha => by
    rw [ig]
    split
    · rw [show a = X by omega]; exact hz j
    · rfl)
  obtain ⟨k1, e1, f, rfl, hf⟩ := FX8_init_s (E := E) r X v k2 e2
  refine ⟨v, yf k2 f, e1, t2, fun a ha => ?_, XI_sm x2 (fun a a1 a2 => ⟨⟨rfl, rfl⟩, fun j => hf a j (by omega), fun j => rfl, fun j => rfl⟩)⟩
  obtain ⟨⟨q1, q2⟩, q3, q4, q5⟩ := l2 a ha
  refine ⟨⟨q1.trans (by rw [eg]; rfl), q2.trans (by rw [eg]; rfl)⟩, fun j => ?_, fun j => (q4 j).trans (by rw [eg]; rfl), fun j => (q5 j).trans (by rw [eg]; rfl)⟩
  show f a j = xi h a j
  rw [hf a j (by omega), q3, ig, if_pos (by omega)]
end SII
