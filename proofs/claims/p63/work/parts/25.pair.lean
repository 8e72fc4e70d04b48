/-! Loops that write, and the class's pairs. -/
set_option linter.unusedVariables false
/-- it ends with a value, and Q holds of that and of the heap -/
def xo {α : Type} (m : XP α) (Q : α → XH → Prop) : Prop := ∃ v h', m = xv v h' ∧ Q v h'
theorem xo_v {α : Type} {Q : α → XH → Prop} {v : α} {h : XH} (q : Q v h) : xo (xv v h) Q := ⟨v, h, rfl, q⟩
theorem xo_e {α : Type} {m : XP α} {Q : α → XH → Prop} {v : α} {h : XH} (e : m = xv v h) (q : Q v h) : xo m Q := ⟨v, h, e, q⟩
theorem xo_b {α β : Type} {m : XP α} {f : α → XH → XP β} {Q : α → XH → Prop} {R : β → XH → Prop} (hm : xo m Q) (hf : ∀ v h, Q v h → xo (f v h) R) : xo (xb m f) R := by
  obtain ⟨v, h, e, q⟩ := hm
  rw [e]
  exact hf v h q
theorem xo_eb {α β : Type} {m : XP α} {f : α → XH → XP β} {R : β → XH → Prop} {v : α} {h : XH} (e : m = xv v h) (hf : xo (f v h) R) : xo (xb m f) R := by rw [e]; exact hf
theorem xo_g {α : Type} {c : Prop} [Decidable c] {m : XP α} {Q : α → XH → Prop} (hc : c) (hm : xo m Q) : xo (xg c m) Q := by rw [xg_t hc]; exact hm
theorem xo_n {α : Type} {o : Option Nat} {w : Nat} {f : Nat → XP α} {Q : α → XH → Prop} (e : o = some w) (hm : xo (f w) Q) : xo (xnn o f) Q := by rw [xnn_e e]; exact hm
theorem xo_lt {α β : Type} {v : β} {f : β → XP α} {Q : α → XH → Prop} (hm : xo (f v) Q) : xo (xlt v f) Q := hm
theorem xo_jn {α δ : Type} {k : δ} {f : δ → XP α} {Q : α → XH → Prop} (hm : xo (f k) Q) : xo (xjn k f) Q := hm
theorem xo_t {α : Type} {c : Prop} [Decidable c] {a b : XP α} {Q : α → XH → Prop} (hc : c) (hm : xo a Q) : xo (if c then a else b) Q := by rw [if_pos hc]; exact hm
theorem xo_f {α : Type} {c : Prop} [Decidable c] {a b : XP α} {Q : α → XH → Prop} (hc : ¬ c) (hm : xo b Q) : xo (if c then a else b) Q := by rw [if_neg hc]; exact hm
theorem xo_w {α : Type} {m : XP α} {Q R : α → XH → Prop} (hm : xo m Q) (hq : ∀ v h, Q v h → R v h) : xo m R := by
  obtain ⟨v, h, e, q⟩ := hm
  exact ⟨v, h, e, hq v h q⟩
/-- a loop by what holds at each turn -/
theorem xlp_inv {σ α : Type} {body : (σ → XH → XP α) → σ → XH → XP α} (I : Nat → σ → XH → Prop) (n : Nat) {Po : XP α → Prop} (hn : n < 9000) (hs : ∀ i s h ag, i ≤ n → I i s h → (i < n → ∀ s' h', I (i + 1) s' h' → Po (ag s' h')) → Po (body ag s h)) {s : σ} {h : XH} (h0 : I 0 s h) : Po (xlp body xfu s h) := by
  have key : ∀ (f i : Nat) (s : σ) (h : XH), I i s h → i ≤ n → n - i < f → Po (xlp body f s h) := by
    intro f
    induction f with
    | zero => intro i s h _ h1 h2; omega
    | succ f ih =>
      intro i s h hi h1 h2
      show Po (body (xlp body f) s h)
      exact hs i s h _ h1 hi (fun q s' h' hi' => ih (i + 1) s' h' hi' (by omega) (by omega))
  exact key xfu 0 s h h0 (by omega) (by unfold xfu; omega)
/-- only ints are written, and only in A -/
def yf (h : XH) (f : Nat → Nat → Int32) : XH := (h.1, h.2.1, f, h.2.2.2)
def iw (A : Nat → Prop) (h h' : XH) : Prop := ∃ f, h' = yf h f ∧ ∀ a j, ¬ A a → f a j = xi h a j
theorem xi_yf (h : XH) (f : Nat → Nat → Int32) (a j : Nat) : xi (yf h f) a j = f a j := rfl
theorem iw.k {A : Nat → Prop} {h h' : XH} (i : iw A h h') (a : Nat) : xk h' a = xk h a := by obtain ⟨f, rfl, -⟩ := i; rfl
theorem iw.n {A : Nat → Prop} {h h' : XH} (i : iw A h h') (a : Nat) : xn h' a = xn h a := by obtain ⟨f, rfl, -⟩ := i; rfl
theorem iw.r {A : Nat → Prop} {h h' : XH} (i : iw A h h') (a j : Nat) : xr h' a j = xr h a j := by obtain ⟨f, rfl, -⟩ := i; rfl
theorem iw.j {A : Nat → Prop} {h h' : XH} (i : iw A h h') (a j : Nat) : xj h' a j = xj h a j := by obtain ⟨f, rfl, -⟩ := i; rfl
theorem iw.t {A : Nat → Prop} {h h' : XH} (i : iw A h h') : xt h' = xt h := by obtain ⟨f, rfl, -⟩ := i; rfl
theorem iw.i {A : Nat → Prop} {h h' : XH} (i : iw A h h') {a : Nat} (j : Nat) (ha : ¬ A a) : xi h' a j = xi h a j := by obtain ⟨f, rfl, hf⟩ := i; exact hf a j ha
theorem iw.refl (A : Nat → Prop) (h : XH) : iw A h h := ⟨h.2.2.1, rfl, fun _ _ _ => rfl⟩
theorem iw.trans {A B D : Nat → Prop} {h h1 h2 : XH} (i : iw A h h1) (j : iw B h1 h2) (hA : ∀ a, A a → D a) (hB : ∀ a, B a → D a) : iw D h h2 := by
  obtain ⟨f, rfl, hf⟩ := i
  obtain ⟨g, rfl, hg⟩ := j
  exact ⟨g, rfl, fun a j ha => (hg a j (fun q => ha (hB a q))).trans (hf a j (fun q => ha (hA a q)))⟩
theorem iw.wide {A D : Nat → Prop} {h h1 : XH} (i : iw A h h1) (hA : ∀ a, A a → D a) : iw D h h1 := i.trans (iw.refl D h1) hA (fun _ q => q)
theorem iw_yi {A : Nat → Prop} (h : XH) (a k : Nat) (x : Int32) (ha : A a) : iw A h (yi h a k x) := ⟨fun b j => if b = a ∧ j = k then x else xi h b j, rfl, fun b j hb => if_neg (fun q : b = a ∧ j = k => hb (by rw [q.1]; exact ha))⟩
theorem iw_yc {A : Nat → Prop} (h : XH) (a : Nat) (f : Nat → Int32) (ha : A a) : iw A h (yc h a f) := ⟨fun b j => if b = a then f j else xi h b j, rfl, fun b j hb => if_neg (fun q : b = a => hb (by rw [q]; exact ha))⟩
theorem iw.yi {A : Nat → Prop} {h h1 : XH} (i : iw A h h1) (a k : Nat) (x : Int32) (ha : A a) : iw A h (yi h1 a k x) := i.trans (iw_yi h1 a k x ha) (fun _ q => q) (fun _ q => q)
theorem xi_yi1 (h : XH) (a k : Nat) (x : Int32) : xi (yi h a k x) a k = x := by rw [xi_yi, if_pos ⟨rfl, rfl⟩]
theorem xi_yi2 (h : XH) {a k b j : Nat} (x : Int32) (q : b ≠ a ∨ j ≠ k) : xi (yi h a k x) b j = xi h b j := by
  rw [xi_yi, if_neg]
  rintro ⟨e1, e2⟩
  rcases q with q | q
  · exact q e1
  · exact q e2
theorem FX8_put_in {E : XG} {a n k : Nat} {h : XH} {v : Int32} (hk : xk h a = 12) (hn : xn h a = n) (h1 : k < n) (h2 : n < 2 ^ 31) : FX8_put E a (nI k) v h = xv () (yi h a k v) := by
  have e1 : ¬ (nI k < (0 : Int32)) := by rw [← nI_0, nI_lt_iff (by omega) (by omega)]; omega
  have e2 : ¬ (Int32.ofNat (xn h a) ≤ nI k) := by rw [hn]; show ¬ (nI n ≤ nI k); rw [nI_le_iff h2 (by omega)]; omega
  unfold FX8_put
  simp only [xjn_d, if_neg e1, if_neg e2]
  rw [xg_t hk, xg_t ⟨hk, by rw [hn]; exact xin_nI h1 h2⟩, xz_nI (by omega)]
  rfl
theorem FJ7_fill_o {E : XG} {a n : Nat} {h : XH} {v : Int32} (hk : xk h a = 12) (hn : xn h a = n) (h2 : n < 9000) : xo (FJ7_fill_53178 E a v h) (fun _ h' => iw (fun b => b = a) h h' ∧ ∀ j, j < n → xi h' a j = v) := by
  unfold FJ7_fill_53178
  refine xo_g hk (xo_lt ?_)
  rw [hn]
  refine xlp_inv (Po := fun m => xo m _) (fun i s h' => s = nI i ∧ iw (fun b => b = a) h h' ∧ ∀ j, j < i → xi h' a j = v) n h2 (fun i s h' ag hi I again => ?_) ⟨rfl, iw.refl _ h, fun j hj => by omega⟩
  obtain ⟨rfl, iW, hv⟩ := I
  by_cases e : i = n
  · subst e
    exact xo_t (Int32.le_refl _) (xo_v ⟨iW, hv⟩)
  · have hlt : i < n := by omega
    refine xo_f (nI_ge hlt (by omega)) (xo_g ⟨by rw [iW.k, hk], by rw [iW.n, hn]; exact xin_nI hlt (by omega)⟩ (xo_lt ?_))
    rw [xz_nI (by omega), nI_s]
    refine again hlt _ _ ⟨rfl, iW.yi _ _ _ rfl, fun j hj => ?_⟩
    by_cases ej : j = i
    · subst ej; exact xi_yi1 _ _ _ _
    · rw [xi_yi2 _ _ (Or.inr ej)]; exact hv j (by omega)
theorem GL.iw {h h' : XH} {A : Nat} {B : Nat → Prop} (g : GL h A) (i : iw B h h') : GL h' A := by obtain ⟨f, rfl, -⟩ := i; exact g
theorem GT.iw {h h' : XH} {A n : Nat} {t : Nat → Nat → Nat} {B : Nat → Prop} (g : GT h A n t) (i : iw B h h') (h0 : ¬ B A) (h1 : ¬ B (A + 1)) : GT h' A n t :=
  ⟨by rw [i.i _ h0]; exact g.1, g.2.1, g.2.2.1, fun a b ha hb => by rw [i.i _ h1]; exact g.2.2.2 a b ha hb⟩
theorem GV.iw {h h' : XH} {A n : Nat} {v : Nat → Nat} {B : Nat → Prop} (g : GV h A n v) (i : iw B h h') (h1 : ¬ B (A + 2)) : GV h' A n v :=
  fun a ha => by rw [i.i _ h1]; exact g a ha
theorem ML.iw {h h' : XH} {C : Nat} {B : Nat → Prop} (g : ML h C) (i : iw B h h') : ML h' C := by obtain ⟨f, rfl, -⟩ := i; exact g
theorem CM.iw {h h' : XH} {C U L : Nat} {d : MD} {B : Nat → Prop} (m : CM h C U L d) (i : iw B h h') (hU : ∀ a, B a → (a < U ∨ U + 2 < a) ∧ (a < L ∨ L + 2 < a) ∧ a ≠ C + 1 ∧ a ≠ C + 2) : CM h' C U L d := by
  obtain ⟨m1, ⟨m2, m3⟩, ⟨m4, m5, m6⟩, ⟨m7, m8, m9⟩, m10, m11⟩ := m
  refine ⟨m1.iw i, ⟨by rw [i.r]; exact m2, by rw [i.r]; exact m3⟩, ⟨m4.iw i, m5.iw i (fun q => ?_) (fun q => ?_), m6.iw i (fun q => ?_)⟩, ⟨m7.iw i, m8.iw i (fun q => ?_) (fun q => ?_), m9.iw i (fun q => ?_)⟩, fun a ha => ?_, fun g a hg ha => ?_⟩
  · have := hU _ q; omega
  · have := hU _ q; omega
  · have := hU _ q; omega
  · have := hU _ q; omega
  · have := hU _ q; omega
  · have := hU _ q; omega
  · rw [i.i _ (fun q => by have := hU _ q; omega)]; exact m10 a ha
  · rw [i.i _ (fun q => by have := hU _ q; omega)]; exact m11 g a hg ha
/-- the class of g: g times what the boundary meets -/
def cst (d : MD) (g x : Nat) : Bool := anyB (dnu d) fun a => dtl d g (dbd d a) == x
/-- the classes, found one after the other: how many, which one holds each element (-1: none yet), the least of each -/
def clF (d : MD) : Nat → Nat × (Nat → Int32) × (Nat → Nat) := fld (fun g s => if s.2.1 g = -1 then (s.1 + 1, (fun x => if cst d g x then nI s.1 else s.2.1 x), fun a => if a = s.1 then g else s.2.2 a) else s) (0, (fun _ => -1), fun _ => 0)
theorem clF_s (d : MD) (g : Nat) : clF d (g + 1) = if (clF d g).2.1 g = -1 then ((clF d g).1 + 1, (fun x => if cst d g x then nI (clF d g).1 else (clF d g).2.1 x), fun a => if a = (clF d g).1 then g else (clF d g).2.2 a) else clF d g := rfl
theorem clF_le (d : MD) (g : Nat) : (clF d g).1 ≤ g := by
  induction g with
  | zero => exact Nat.le_refl _
  | succ g ih =>
    rw [clF_s]
    split
    · show (clF d g).1 + 1 ≤ g + 1; omega
    · omega
/-- the pair's rows at P hold the classes of the first i -/
def PV (h : XH) (P : Nat) (d : MD) (i : Nat) : Prop := xi h P 4 = nI (clF d i).1 ∧ (∀ x, x < 8 → xi h (P + 1) x = (clF d i).2.1 x) ∧ ∀ a, a < (clF d i).1 → xi h (P + 2) a = nI ((clF d i).2.2 a)
section PAIR
variable {E : XG} {h : XH} {C U L : Nat} {d : MD}
theorem CM.pr (m : CM h C U L d) : xr h C 5 = some (C + 3) := m.1.2.2.2.1
theorem CM.pk (m : CM h C U L d) : xk h (C + 3) = 5 := m.1.2.2.2.2.1
theorem CM.p0 (m : CM h C U L d) : xr h (C + 3) 0 = some (C + 4) ∧ xk h (C + 4) = 12 ∧ xn h (C + 4) = 8 := m.1.2.2.2.2.2.1
theorem CM.p1 (m : CM h C U L d) : xr h (C + 3) 1 = some (C + 5) ∧ xk h (C + 5) = 12 ∧ xn h (C + 5) = 8 := m.1.2.2.2.2.2.2.1
theorem CM.p2 (m : CM h C U L d) : xr h (C + 3) 2 = some (C + 6) ∧ xk h (C + 6) = 12 ∧ xn h (C + 6) = 9 := m.1.2.2.2.2.2.2.2.1
theorem CM.p3 (m : CM h C U L d) : xr h (C + 3) 3 = some (C + 7) ∧ xk h (C + 7) = 12 ∧ xn h (C + 7) = 9 := m.1.2.2.2.2.2.2.2.2
theorem CM.ch (m : CM h C U L d) {g : Nat} (hg : g < 8) : FX4_classHolding E (C + 3) (nI g) h = xv (xi h (C + 4) g) h := by
  unfold FX4_classHolding
  (try dsimp only); (rw [xg_t (m.pk), xnn_e (m.p0.1), xb_eq (FX8_at_in m.p0.2.1 m.p0.2.2 hg (by omega))])
theorem CM.le (m : CM h C U L d) {g : Nat} (hg : g < 8) : FX4_leastOf E (C + 3) (nI g) h = xv (xi h (C + 5) g) h := by
  unfold FX4_leastOf
  (try dsimp only); (rw [xg_t (m.pk), xnn_e (m.p1.1), xb_eq (FX8_at_in m.p1.2.1 m.p1.2.2 hg (by omega))])
abbrev rPair (C a : Nat) : Prop := a = C + 3 ∨ a = C + 4 ∨ a = C + 5
abbrev rPairs (C a : Nat) : Prop := C + 3 ≤ a ∧ a ≤ C + 7
theorem FX4_sortClasses_o (m : CM h C U L d) (hU : U + 2 < C) (hL : L + 2 < C) : xo (FX4_sortClasses E (C + 3) C h) (fun _ h' => iw (rPair C) h h' ∧ PV h' (C + 3) d (dnl d)) := by
  obtain ⟨⟨w1, w2, w3, w4⟩, w5, w6, w7, w8, w9, w10⟩ := m.wd
  have ap : ∀ a, rPair C a → (a < U ∨ U + 2 < a) ∧ (a < L ∨ L + 2 < a) ∧ a ≠ C + 1 ∧ a ≠ C + 2 := fun a q => by unfold rPair at q; omega
  unfold FX4_sortClasses
  refine xo_g m.pk (xo_n m.p0.1 (xo_b (FJ7_fill_o m.p0.2.1 m.p0.2.2 (by omega)) (fun _ h2 q2 => ?_)))
  obtain ⟨i2, f2⟩ := q2
  have i2 : iw (rPair C) h h2 := i2.wide (fun a q => Or.inr (Or.inl q))
  have m2 := m.iw i2 ap
  refine xo_g m2.pk (xo_lt ?_)
  refine xlp_inv (Po := fun m => xo m _) (fun i s h' => s = nI i ∧ iw (rPair C) h h' ∧ PV h' (C + 3) d i) (dnl d) (by omega) (fun i s h' ag hi I again => ?_) ⟨rfl, i2.yi _ _ _ (Or.inl rfl), xi_yi1 _ _ _ _, fun x hx => ?_, fun a ha => by exact absurd ha (Nat.not_lt_zero _)⟩
  · obtain ⟨rfl, iW, p1, p2, p3⟩ := I
    have m3 := m.iw iW ap
    refine xo_g m3.k (xo_n m3.l (xo_g m3.lk ?_))
    rw [m3.ln]
    by_cases e : i = dnl d
    · subst e
      exact xo_t (Int32.le_refl _) (xo_v ⟨iW, p1, p2, p3⟩)
    · have hlt : i < dnl d := by omega
      refine xo_f (nI_ge hlt (by omega)) (xo_g m3.pk (xo_eb (m3.ch (by omega)) (xo_jn ?_)))
      rw [p2 i (by omega)]
      have hle := clF_le d i
      by_cases e1 : (clF d i).2.1 i = -1
      · refine xo_t e1 (xo_g m3.pk (xo_n m3.p1.1 (xo_g m3.pk ?_)))
        rw [p1]
        refine xo_eb (FX8_put_in m3.p1.2.1 m3.p1.2.2 (show (clF d i).1 < 8 by omega) (by omega)) ?_
        have i4 := iW.yi (C + 5) (clF d i).1 (nI i) (Or.inr (Or.inr rfl))
        refine xlp_inv (Po := fun m => xo m _) (fun j s h' => s = nI j ∧ iw (rPair C) h h' ∧ xi h' (C + 3) 4 = nI (clF d i).1 ∧ (∀ x, x < 8 → xi h' (C + 4) x = if anyB j (fun a => dtl d i (dbd d a) == x) then nI (clF d i).1 else (clF d i).2.1 x) ∧ ∀ a, a < (clF d i).1 + 1 → xi h' (C + 5) a = nI (if a = (clF d i).1 then i else (clF d i).2.2 a)) (dnu d) (by omega) (fun j s h' ag' hj I again' => ?_) ⟨rfl, i4, ?_, fun x hx => ?_, fun a ha => ?_⟩
        · obtain ⟨rfl, iW, r1, r2, r3⟩ := I
          have m4 := m.iw iW ap
          refine xo_g m4.k (xo_n m4.u (xo_g m4.uk ?_))
          rw [m4.un]
          by_cases ej : j = dnu d
          · subst ej
            refine xo_t (Int32.le_refl _) (xo_g m4.pk (xo_g m4.pk (xo_lt ?_)))
            rw [r1, nI_s, nI_s]
            refine again hlt _ _ ⟨rfl, iW.yi _ _ _ (Or.inl rfl), ?_⟩
            unfold PV
            rw [clF_s, if_pos e1]
            refine ⟨xi_yi1 _ _ _ _, fun x hx => ?_, fun a ha => ?_⟩
            · rw [xi_yi2 _ _ (Or.inl (by omega))]
              exact r2 x hx
            · rw [xi_yi2 _ _ (Or.inl (by omega))]
              exact r3 a ha
          · have hlj : j < dnu d := by omega
            have q1 := w9 j hlj
            have q2 := w7 i _ hlt q1
            refine xo_f (nI_ge hlj (by omega)) (xo_g m4.pk (xo_n m4.p0.1 (xo_g m4.k (xo_n m4.l (xo_g m4.k (xo_eb (m4.bd hlj) (xo_g m4.lk (xo_eb (m4.pl hlt q1) (xo_g m4.pk ?_)))))))))
            rw [r1]
            refine xo_eb (FX8_put_in m4.p0.2.1 m4.p0.2.2 (show dtl d i (dbd d j) < 8 by omega) (by omega)) ?_
            rw [nI_s]
            refine again' hlj _ _ ⟨rfl, iW.yi _ _ _ (Or.inr (Or.inl rfl)), ?_, fun x hx => ?_, fun a ha => ?_⟩
            · rw [xi_yi2 _ _ (Or.inl (by omega))]; exact r1
            · rw [anyB_s]
              by_cases ex : x = dtl d i (dbd d j)
              · subst ex
                rw [xi_yi1, if_pos (by simp)]
              · have ex2 : ¬ dtl d i (dbd d j) = x := fun q => ex q.symm
                rw [xi_yi2 _ _ (Or.inr ex), r2 x hx]
                simp [ex2]
            · rw [xi_yi2 _ _ (Or.inl (by omega))]; exact r3 a ha
        · rw [xi_yi2 _ _ (Or.inl (by omega))]; exact p1
        · rw [xi_yi2 _ _ (Or.inl (by omega)), p2 x hx]; rfl
        · by_cases ea : a = (clF d i).1
          · subst ea
            rw [xi_yi1, if_pos rfl]
          · rw [xi_yi2 _ _ (Or.inr ea), if_neg ea]; exact p3 a (by omega)
      · refine xo_f e1 ?_
        rw [nI_s]
        refine again hlt _ _ ⟨rfl, iW, ?_⟩
        unfold PV
        rw [clF_s, if_neg e1]
        exact ⟨p1, p2, p3⟩
  · show xi (yi h2 (C + 3) 4 0) (C + 3 + 1) x = -1
    rw [xi_yi2 _ _ (Or.inl (by omega))]
    exact f2 x hx
end PAIR
