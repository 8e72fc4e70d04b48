/-! What the class leaves alone; the form of an answer for the law. -/
set_option linter.unusedVariables false
/-- what lies behind the class's rows stays -/
def FRm (X : Nat) (h h1 : XH) : Prop := xt h ≤ xt h1 ∧ ∀ a, X + 223 ≤ a → a < xt h → (xk h1 a = xk h a ∧ xn h1 a = xn h a) ∧ (∀ j, xi h1 a j = xi h a j) ∧ (∀ j, xj h1 a j = xj h a j) ∧ ∀ j, xr h1 a j = xr h a j
theorem FRm_iw {X : Nat} {h h1 : XH} (i : iw (rXa X) h h1) : FRm X h h1 :=
  ⟨by rw [i.t]; exact Nat.le_refl _, fun a q1 q2 => ⟨⟨i.k a, i.n a⟩, fun j => i.i j (fun q => by unfold rXa at q; omega), fun j => i.j a j, fun j => i.r a j⟩⟩
theorem FRm_trans {X : Nat} {h h1 h2 : XH} (p : FRm X h h1) (q : FRm X h1 h2) : FRm X h h2 :=
  ⟨Nat.le_trans p.1 q.1, fun a q1 q2 => by
    obtain ⟨⟨a1, a2⟩, a3, a4, a5⟩ := p.2 a q1 q2
    obtain ⟨⟨b1, b2⟩, b3, b4, b5⟩ := q.2 a q1 (Nat.lt_of_lt_of_le q2 p.1)
    exact ⟨⟨b1.trans a1, b2.trans a2⟩, fun j => (b3 j).trans (a3 j), fun j => (b4 j).trans (a4 j), fun j => (b5 j).trans (a5 j)⟩⟩
theorem YL_fr {Y : Nat} {h h1 : XH} (y : YL h Y) (e : ∀ a, Y ≤ a → a < Y + 25 → (xk h1 a = xk h a ∧ xn h1 a = xn h a) ∧ ∀ j, xr h1 a j = xr h a j) : YL h1 Y := by
  have l25 : ∀ q ∈ yT, q.2.1 < 25 := by decide
  refine ⟨(e Y (by omega) (by omega)).1.1.trans y.1, fun q hq => ?_⟩
  have := l25 q hq
  obtain ⟨y1, y2, y3⟩ := y.2 q hq
  have e1 := e (Y + q.2.1) (by omega) (by omega)
  exact ⟨((e Y (by omega) (by omega)).2 _).trans y1, e1.1.1.trans y2, e1.1.2.trans y3⟩
theorem YI_fr {X Y : Nat} {h h1 : XH} {Z : ZD} (y : YI h Y Z) (q : FRm X h h1) (d1 : X + 223 ≤ Y) (d2 : Y + 25 ≤ xt h) : YI h1 Y Z := by
  have e : ∀ a, Y ≤ a → a < Y + 25 → (xk h1 a = xk h a ∧ xn h1 a = xn h a) ∧ ∀ j, xr h1 a j = xr h a j := fun a q1 q2 => ⟨(q.2 a (by omega) (by omega)).1, (q.2 a (by omega) (by omega)).2.2.2⟩
  have i : iw (fun a => a < Y ∨ Y + 25 ≤ a) h (yf h (xi h1)) := ⟨xi h1, rfl, fun a j hj => by
    have hj : ¬ (a < Y ∨ Y + 25 ≤ a) := hj
    exact (q.2 a (by omega) (by omega)).2.1 j⟩
  have yl := YL_fr y.l e
  obtain ⟨⟨⟨y0, c, ⟨-, s2⟩, t⟩, n⟩, r⟩ := YI_iw y i (fun a q => by omega)
  exact ⟨⟨⟨y0, c, ⟨yl, s2⟩, t⟩, n⟩, r⟩
/-- the form of an answer for the law -/
def AGw (X Y : Nat) (cm : Nat → Nat) (h : XH) (Z : ZD) (FC FM : XH → XP Int32) : Prop := ∃ (r : Int32 ⊕ Nat) (c : Nat) (u : Int32) (Z' : ZD), WZ Z' ∧ xq (FC h) (fun r' h1 => r' = r ∧ FRm X h h1 ∧ ∃ w s f, XI h1 X w s f Z') ∧ (∀ h', YI h' Y Z → xo (FM h') (fun b h2 => b = u ∧ iw (rYa Y) h' h2 ∧ xi h2 Y 0 = nI c ∧ YI h2 Y Z')) ∧ ((∃ v, r = .inl v ∧ c = 0 ∧ v = u) ∨ ∃ e, r = .inr e ∧ e < 3 ∧ c = cm e ∧ 0 < c ∧ c < 100)
theorem AGw_z {X Y : Nat} {cm : Nat → Nat} {h : XH} {Z : ZD} {FC FM : XH → XP Int32} (a : AGz X Y cm h Z FC FM) : AGw X Y cm h Z FC FM := by
  obtain ⟨r, c, u, Z', z, ⟨r', h1, e, q1, q2, q3⟩, a2, a3⟩ := a
  exact ⟨r, c, u, Z', z, ⟨r', h1, e, q1, FRm_iw q2, q3⟩, a2, a3⟩
/-- what the class holds stays when a long is put, the end grows, the reference writes -/
theorem XI_yj {h : XH} {X w s f : Nat} {Z : ZD} (x : XI h X w s f Z) {O : Nat} (hO : X + 223 ≤ O) (k : Nat) (v : Int64) : XI (yj h O k v) X w s f Z := by
  have ws := x.ws
  have h6 := x.ci.1.1.1
  obtain ⟨x1, ⟨x7, x8⟩, x9⟩ := x
  refine ⟨x1, ⟨x7, fun s k hs hk => ⟨?_, (x8 s k hs hk).2⟩⟩, x9⟩
  show (if w + 2 + 3 * s = O ∧ _ then _ else xj h (w + 2 + 3 * s) k) = _
  rw [if_neg (fun q => by omega)]
  exact (x8 s k hs hk).1
/-- the law's part of it: after the class's call (a value: its long put; an exception: the end grown) the reference's call gives the same, and both hold Z' -/
theorem JJ_law {X Y O : Nat} {cm : Nat → Nat} {h : XH} {Z : ZD} {FC FM : XH → XP Int32} (j : JJ h X Y O Z) (a : AGw X Y cm h Z FC FM) : ∃ (r : Int32 ⊕ Nat) (h1 : XH), FC h = some (r, h1) ∧ FRm X h h1 ∧ (∀ e, r = .inr e → e < 3) ∧ ∀ t v, xt h1 ≤ t → ∃ u h2 Z', FM (yj (yt h1 t) O 0 v) = xv u h2 ∧ JJ h2 X Y O Z' ∧ xt h2 = t ∧ xj h2 O 0 = v ∧ ((∃ v', r = .inl v' ∧ xi h2 Y 0 = nI 0 ∧ v' = u) ∨ ∃ e, r = .inr e ∧ e < 3 ∧ xi h2 Y 0 = nI (cm e) ∧ 0 < cm e ∧ cm e < 100) := by
  obtain ⟨z, ⟨d1, d2, d3⟩, ⟨o1, o2⟩, ⟨w, s, f, x⟩, y⟩ := j
  obtain ⟨r, c, u, Z', z', ⟨r', h1, e, q1, q2, w', s', f', x1⟩, a2, a3⟩ := a
  subst q1
  refine ⟨r', h1, e, q2, fun e he => ?_, fun t v ht => ?_⟩
  · rcases a3 with ⟨v, hv, -⟩ | ⟨e', he', h3, -⟩
    · rw [he] at hv; cases hv
    · rw [he] at he'; cases he'; exact h3
  · have y1 : YI h1 Y Z := YI_fr y q2 d1 (by omega)
    obtain ⟨b, h2, e2, p1, p2, p3, p4⟩ := a2 (yj (yt h1 t) O 0 v) y1
    subst p1
    obtain ⟨⟨k1, k2⟩, -⟩ := q2.2 O (by omega) d3
    refine ⟨b, h2, Z', e2, ⟨z', ⟨d1, d2, ?_⟩, ⟨?_, ?_⟩, ⟨w', s', f', XI_iw (XI_yj (XI_yt x1 t) (by omega) 0 v) p2 (fun a q => by unfold rYa at q; omega)⟩, p4⟩, p2.t, ?_, ?_⟩
    · rw [p2.t]
      show O < t
      have := q2.1
      omega
    · rw [p2.k]; exact k1.trans o1
    · rw [p2.n]; exact k2.trans o2
    · rw [p2.j]
      show (if O = O ∧ 0 = 0 then v else _) = v
      rw [if_pos ⟨rfl, rfl⟩]
    · rcases a3 with ⟨v', hv, hc, hu⟩ | ⟨e', he', h3, hc, h4, h5⟩
      · exact Or.inl ⟨v', hv, by rw [p3, hc], hu⟩
      · exact Or.inr ⟨e', he', h3, by rw [p3, hc], by rw [← hc]; exact h4, by rw [← hc]; exact h5⟩
