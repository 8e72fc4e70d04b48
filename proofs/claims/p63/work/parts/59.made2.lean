/-! Objects made: what a constructor lays out. -/
set_option linter.unusedVariables false
/-- the cells below n stay -/
def Lo (n : Nat) (h h' : XH) : Prop := ∀ a, a < n → (xk h' a = xk h a ∧ xn h' a = xn h a) ∧ (∀ j, xi h' a j = xi h a j) ∧ (∀ j, xj h' a j = xj h a j) ∧ ∀ j, xr h' a j = xr h a j
theorem Lo.refl (n : Nat) (h : XH) : Lo n h h := fun a _ => ⟨⟨rfl, rfl⟩, fun _ => rfl, fun _ => rfl, fun _ => rfl⟩
theorem Lo.trans {n : Nat} {h h1 h2 : XH} (p : Lo n h h1) (q : Lo n h1 h2) : Lo n h h2 := fun a ha => by
  obtain ⟨⟨a1, a2⟩, a3, a4, a5⟩ := p a ha
  obtain ⟨⟨b1, b2⟩, b3, b4, b5⟩ := q a ha
  exact ⟨⟨b1.trans a1, b2.trans a2⟩, fun j => (b3 j).trans (a3 j), fun j => (b4 j).trans (a4 j), fun j => (b5 j).trans (a5 j)⟩
theorem Lo.less {n m : Nat} {h h1 : XH} (p : Lo n h h1) (q : m ≤ n) : Lo m h h1 := fun a ha => p a (by omega)
theorem Lo_ya {n : Nat} (h : XH) (g l : Nat) (q : n ≤ xt h) : Lo n h (ya h g l) := fun a ha => by
  have e : ¬ a = xt h := by omega
  exact ⟨⟨if_neg e, if_neg e⟩, fun j => if_neg e, fun j => if_neg e, fun j => if_neg e⟩
theorem Lo_yr {n : Nat} (h : XH) (a k : Nat) (x : Option Nat) (q : n ≤ a) : Lo n h (yr h a k x) := fun b hb => ⟨⟨rfl, rfl⟩, fun _ => rfl, fun _ => rfl, fun j => if_neg (fun z => by omega)⟩
theorem Lo_yi {n : Nat} (h : XH) (a k : Nat) (x : Int32) (q : n ≤ a) : Lo n h (yi h a k x) := fun b hb => ⟨⟨rfl, rfl⟩, fun j => if_neg (fun z => by omega), fun _ => rfl, fun _ => rfl⟩
/-- an object at Y of kind c, under the making: L its rows so far, right behind it -/
def Mk (Y c : Nat) (h0 h : XH) (L : List (Nat × Nat × Nat × Nat)) : Prop := (xt h = Y + 1 + L.length ∧ xk h Y = c) ∧ Lo Y h0 h ∧ (∀ q ∈ L, (0 < q.2.1 ∧ q.2.1 ≤ L.length) ∧ xr h Y q.1 = some (Y + q.2.1) ∧ xk h (Y + q.2.1) = q.2.2.1 ∧ xn h (Y + q.2.1) = q.2.2.2) ∧ (∀ a j, Y < a → xi h a j = 0) ∧ (∀ j, xi h Y j = xi h0 Y j) ∧ xn h Y = xn h0 Y
theorem Mk_0 {Y c : Nat} {h : XH} (ht : xt h = Y + 1) (hk : xk h Y = c) (hz : ∀ a j, Y < a → xi h a j = 0) : Mk Y c h h [] := ⟨⟨ht, hk⟩, Lo.refl _ _, fun q hq => (by cases hq), hz, fun _ => rfl, rfl⟩
theorem Mk_s {β : Type} {Y c k g n : Nat} {h0 h : XH} {L : List (Nat × Nat × Nat × Nat)} {f : XH → XP β} {Q : β → XH → Prop} (p : Mk Y c h0 h L) (hc : ¬ c = 0) (hk : ∀ q ∈ L, ¬ q.1 = k) (K : ∀ h', Mk Y c h0 h' (L ++ [(k, L.length + 1, g, n)]) → xo (f h') Q) : xo (xg (xk h Y ≠ 0) <| xal h g n fun w h2 => xg (xk h2 Y = c) <| xlt (yr h2 Y k (some w)) fun h3 => f h3) Q := by
  obtain ⟨⟨p1, p2⟩, p3, p4, p5, p6⟩ := p
  have e : ¬ Y = xt h := by omega
  refine xo_g (by rw [p2]; exact hc) ?_
  show xo (xg (xk (ya h g n) Y = c) <| xlt (yr (ya h g n) Y k (some (xt h))) fun h3 => f h3) Q
  have k2 : xk (ya h g n) Y = c := (if_neg e).trans p2
  refine xo_g k2 (xo_lt (K _ ⟨⟨?_, k2⟩, (p3.trans (Lo_ya h g n (by omega))).trans (Lo_yr _ _ _ _ (Nat.le_refl _)), fun q hq => ?_, fun a j ha => ?_, fun j => ?_, (if_neg e).trans p6.2⟩))
  · show xt h + 1 = _
    rw [p1, List.length_append, List.length_singleton]
    omega
  · rw [List.length_append, List.length_singleton]
    rcases List.mem_append.mp hq with z | z
    · obtain ⟨⟨z1, z2⟩, z3, z4, z5⟩ := p4 q z
      have e2 : ¬ Y + q.2.1 = xt h := by omega
      refine ⟨⟨z1, by omega⟩, ?_, (if_neg e2).trans z4, (if_neg e2).trans z5⟩
      show (if Y = Y ∧ q.1 = k then some (xt h) else if Y = xt h then none else xr h Y q.1) = _
      rw [if_neg (fun w => hk q z w.2), if_neg e]
      exact z3
    · rw [List.mem_singleton.mp z]
      have e2 : Y + (L.length + 1) = xt h := by omega
      refine ⟨⟨by show 0 < L.length + 1; omega, Nat.le_refl _⟩, ?_, if_pos e2, if_pos e2⟩
      show (if Y = Y ∧ k = k then some (xt h) else _) = some (Y + (L.length + 1))
      rw [if_pos ⟨rfl, rfl⟩, e2]
  · show (if a = xt h then 0 else xi h a j) = 0
    split
    · rfl
    · exact p5 a j ha
  · show (if Y = xt h then 0 else xi h Y j) = _
    rw [if_neg e]
    exact p6.1 j
/-- the empty state -/
def S0 : SD := ((0, 0, 0), (fun _ => (1, (fun _ _ => 0), fun _ => 0)), (fun _ => (0, 0)), (fun _ => (0, 0)), fun _ _ => [])
def T0 : ST := ((fun _ _ => 0), (fun _ _ _ => 0), (fun _ _ => 0), (fun _ _ => 0), fun _ => 0)
def Z0 : ZD := (false, S0, T0, (0, fun _ => T0), (fun _ => none), (0, fun _ => 0), (0, -1), (0, fun _ => 0))
theorem S0_ws : WS S0 := ⟨⟨by decide, by decide, by decide⟩, fun g hg => absurd hg (Nat.not_lt_zero _), fun g hg => absurd hg (Nat.not_lt_zero _), fun g hg => absurd hg (Nat.not_lt_zero _)⟩
theorem S0_wt : WT S0 T0 := ⟨fun m a hm => absurd hm (Nat.not_lt_zero _), fun m g a hm => absurd hm (Nat.not_lt_zero _), fun m a hm => absurd hm (Nat.not_lt_zero _), fun m a hm => absurd hm (Nat.not_lt_zero _)⟩
theorem S0_sc {s k : Nat} (hk : k < scn S0 s) : False := by
  have e : scn S0 s = 0 := by
    unfold scn
    split
    · rfl
    · split <;> rfl
  omega
theorem Z0_wz : WZ Z0 := ⟨fun _ => rfl, fun s k hs hk => (S0_sc hk).elim, ⟨by decide, fun i hi => absurd hi (Nat.not_lt_zero _)⟩, fun i T hi e => (by cases e), ⟨by decide, fun i hi => absurd hi (Nat.not_lt_zero _)⟩, by decide, fun i hi => absurd hi (Nat.not_lt_zero _)⟩
section MADE
variable {E : XG} {h : XH} {Y : Nat}
theorem Mk_yi {c k : Nat} {h0 : XH} {x : Int32} {L : List (Nat × Nat × Nat × Nat)} (p : Mk Y c h0 h L) : Mk Y c (yi h0 Y k x) (yi h Y k x) L := by
  obtain ⟨⟨p1, p2⟩, p3, p4, p5, p6⟩ := p
  refine ⟨⟨p1, p2⟩, fun a ha => ?_, p4, fun a j ha => ?_, fun j => ?_, p6.2⟩
  · obtain ⟨q1, q2, q3⟩ := p3 a ha
    exact ⟨q1, fun j => by rw [xi_yi2 _ _ (Or.inl (by omega)), xi_yi2 _ _ (Or.inl (by omega))]; exact q2 j, q3⟩
  · rw [xi_yi2 _ _ (Or.inl (by omega))]; exact p5 a j ha
  · rw [xi_yi, xi_yi, p6.1 j]
end MADE
