/-! Changes, the class. -/
set_option linter.unusedVariables false
/-- other parts of T -/
def Tbd (T : ST) (m a v : Nat) : ST := ((fun m' a' => if m' = m ∧ a' = a then v else tbd T m' a'), tac T, ttp T, tbt T, tcc T)
def Tac (T : ST) (m g a v : Nat) : ST := (tbd T, (fun m' g' a' => if m' = m ∧ g' = g ∧ a' = a then v else tac T m' g' a'), ttp T, tbt T, tcc T)
def Ttp (T : ST) (a x v : Nat) : ST := (tbd T, tac T, (fun a' x' => if a' = a ∧ x' = x then v else ttp T a' x'), tbt T, tcc T)
def Tbt (T : ST) (a x v : Nat) : ST := (tbd T, tac T, ttp T, (fun a' x' => if a' = a ∧ x' = x then v else tbt T a' x'), tcc T)
def Tcc (T : ST) (c : Nat → Int32) : ST := (tbd T, tac T, ttp T, tbt T, c)
/-- one change more -/
def T1 (T : ST) : ST := Tcc T (fun k => if k = 0 then tcc T 0 + 1 else tcc T k)
/-- a module judged anew: a before, b now -/
def Tjd (T : ST) (a b : Nat) : ST := Tcc T (fun k => if k = 1 ∧ a = 0 ∧ ¬ b = 0 then tcc T 1 + 1 else if k = 2 ∧ ¬ a = 0 ∧ b = 0 then tcc T 2 + 1 else tcc T k)
def CTx (h : XH) (W : Nat) (S : SD) (T : ST) (wh : Nat → Nat) : Prop := (∀ m a, m < snm S → a < nuS S m → xi h (W + 32 + 8 * m + 1) a = nI (tbd T m a)) ∧ (∀ m g a, m < snm S → g < nlS2 S m → a < nuS S m → xi h (W + 32 + 8 * m + 2) (8 * g + a) = nI (tac T m g a)) ∧ (∀ m, m < snm S → xi h (W + 32 + 8 * m) 7 = nI (wh m)) ∧ (∀ a x, a < sna S → x < nuS S (saf S a) → xi h (W + 80 + 3 * a + 1) x = nI (ttp T a x)) ∧ (∀ a x, a < sna S → x < nlS2 S (saf S a) → xi h (W + 80 + 3 * a + 2) x = nI (tbt T a x)) ∧ ∀ w, w < 3 → xi h (W + 13) w = tcc T w
/-- the world holds S and T, the reasons kept are wh -/
def CIx (h : XH) (W : Nat) (S : SD) (T : ST) (wh : Nat → Nat) : Prop := (WS S ∧ WT S T) ∧ CS h W S ∧ CTx h W S T wh
section CHG
variable {E : XG} {h : XH} {W : Nat} {S : SD} {T : ST} {wh : Nat → Nat}
theorem CI.x (M : CI h W S T) : CIx h W S T (whS S T) := M
theorem CIx.ci (M : CIx h W S T wh) (e : ∀ m, m < snm S → wh m = whS S T m) : CI h W S T := ⟨M.1, M.2.1, M.2.2.1, M.2.2.2.1, fun m hm => by rw [← e m hm]; exact M.2.2.2.2.1 m hm, M.2.2.2.2.2⟩
theorem CIx.cm (M : CIx h W S T wh) {m : Nat} (hm : m < snm S) : CM h (W + 32 + 8 * m) (W + 14 + 3 * smu S m) (W + 14 + 3 * sml S m) (mdS S T m) := by
  obtain ⟨⟨W1, W2⟩, C, T1, T2, T3, T4, T5, T6⟩ := M
  have h6 := W1.1.2.1
  obtain ⟨q1, q2⟩ := W1.2.2.1 m hm
  exact ⟨(C.1.1.2.2.2.1 m (by omega)).2, C.2.2.2.1 m hm, C.gt W1 q1, C.gt W1 q2, fun a ha => ⟨T1 m a hm ha, W2.1 m a hm ha⟩, fun g a hg ha => ⟨T2 m g a hm hg ha, W2.2.1 m g a hm hg ha⟩⟩
theorem CS_ts2 {h' : XH} {B : Nat → Prop} (w : WS S) (M : CS h W S) (i : iw B h h') (hB : ∀ a, B a → a < W ∨ a = W + 13 ∨ W + 32 ≤ a) (hN : ∀ m, m < 6 → xi h' (W + 32 + 8 * m) 0 = nI m) : CS h' W S := by
  obtain ⟨⟨w1, w2, w3⟩, w4, w5, w6⟩ := w
  obtain ⟨⟨m1, m2, m3⟩, ⟨m4, m5, m6⟩, m7, m8, m9⟩ := M
  have nb : ∀ a, W ≤ a → a < W + 32 → a ≠ W + 13 → ¬ B a := fun a q1 q2 q4 q => by
    have := hB a q
    omega
  refine ⟨⟨WL_iw m1 i, fun g hg => ?_, hN⟩, ⟨?_, ?_, ?_⟩, fun g hg => ⟨?_, fun a b ha hb => ?_, fun a ha => ?_⟩, fun m hm => ⟨by rw [i.r]; exact (m8 m hm).1, by rw [i.r]; exact (m8 m hm).2⟩, fun a ha => ⟨by rw [i.r]; exact (m9 a ha).1, by rw [i.r]; exact (m9 a ha).2⟩⟩
  · rw [i.i _ (nb _ (by omega) (by omega) (by omega))]; exact m2 g hg
  · rw [i.i _ (nb _ (by omega) (by omega) (by omega))]; exact m4
  · rw [i.i _ (nb _ (by omega) (by omega) (by omega))]; exact m5
  · rw [i.i _ (nb _ (by omega) (by omega) (by omega))]; exact m6
  · rw [i.i _ (nb _ (by omega) (by omega) (by omega))]; exact (m7 g hg).1
  · rw [i.i _ (nb _ (by omega) (by omega) (by omega))]; exact (m7 g hg).2.1 a b ha hb
  · rw [i.i _ (nb _ (by omega) (by omega) (by omega))]; exact (m7 g hg).2.2 a ha
/-- what is written outside a world -/
theorem CIx_out {h' : XH} {B : Nat → Prop} (M : CIx h W S T wh) (i : iw B h h') (hB : ∀ a, B a → a < W ∨ W + 104 ≤ a) : CIx h' W S T wh := by
  obtain ⟨⟨W1, W2⟩, C, q1, q2, q3, q4, q5, q6⟩ := M
  have w := W1
  obtain ⟨⟨w1, w2, w3⟩, w4, w5, w6⟩ := w
  have nb : ∀ a, W ≤ a → a < W + 104 → ¬ B a := fun a z1 z2 q => by have := hB a q; omega
  refine ⟨⟨W1, W2⟩, CS_ts2 W1 C i (fun a q => by have := hB a q; omega) (fun m hm => ?_), fun m a z1 z2 => ?_, fun m g a z1 z2 z3 => ?_, fun m z1 => ?_, fun a x z1 z2 => ?_, fun a x z1 z2 => ?_, fun x z1 => ?_⟩
  · rw [i.i _ (nb _ (by omega) (by omega))]; exact C.1.2.2 m hm
  · rw [i.i _ (nb _ (by omega) (by omega))]; exact q1 m a z1 z2
  · rw [i.i _ (nb _ (by omega) (by omega))]; exact q2 m g a z1 z2 z3
  · rw [i.i _ (nb _ (by omega) (by omega))]; exact q3 m z1
  · rw [i.i _ (nb _ (by omega) (by omega))]; exact q4 a x z1 z2
  · rw [i.i _ (nb _ (by omega) (by omega))]; exact q5 a x z1 z2
  · rw [i.i _ (nb _ (by omega) (by omega))]; exact q6 x z1
/-- one account -/
theorem CIx_acc (M : CIx h W S T wh) {k : Nat} (hk : k < 3) (v : Int32) : CIx (yi h (W + 13) k v) W S (Tcc T (fun j => if j = k then v else tcc T j)) wh := by
  obtain ⟨⟨W1, W2⟩, C, q1, q2, q3, q4, q5, q6⟩ := M
  have i : iw (fun a => a = W + 13) h (yi h (W + 13) k v) := iw_yi _ _ _ _ rfl
  refine ⟨⟨W1, W2⟩, CS_ts2 W1 C i (fun a q => Or.inr (Or.inl q)) (fun m hm => ?_), fun m a z1 z2 => ?_, fun m g a z1 z2 z3 => ?_, fun m z1 => ?_, fun a x z1 z2 => ?_, fun a x z1 z2 => ?_, fun x z1 => ?_⟩
  · rw [i.i _ (by omega)]; exact C.1.2.2 m hm
  · rw [i.i _ (by omega)]; exact q1 m a z1 z2
  · rw [i.i _ (by omega)]; exact q2 m g a z1 z2 z3
  · rw [i.i _ (by omega)]; exact q3 m z1
  · rw [i.i _ (by omega)]; exact q4 a x z1 z2
  · rw [i.i _ (by omega)]; exact q5 a x z1 z2
  · show _ = if x = k then v else tcc T x
    by_cases e : x = k
    · rw [if_pos e, e, xi_yi1]
    · rw [if_neg e, xi_yi2 _ _ (Or.inr e)]; exact q6 x z1
theorem FX7_addToAccount_o (M : CIx h W S T wh) {k : Nat} (hk : k < 3) : FX7_addToAccount E W (nI k) h = xv () (yi h (W + 13) k (tcc T k + 1)) := by
  have wl := M.2.1.1.1
  have e := M.2.2.2.2.2.2.2 k hk
  unfold FX7_addToAccount
  (try dsimp only); (rw [xg_t (wl.1), xnn_e (wl.r13), xg_t (wl.1), xnn_e (wl.r13), xb_eq (FX8_at_in wl.k13 wl.n13 hk (by omega)), e, xb_eq (FX8_put_in wl.k13 wl.n13 hk (by omega))])
theorem CIx_bd (M : CIx h W S T wh) {m a v : Nat} (hm : m < snm S) (ha : a < nuS S m) (hv : v < nlS2 S m) : CIx (yi h (W + 32 + 8 * m + 1) a (nI v)) W S (Tbd T m a v) wh := by
  obtain ⟨⟨W1, W2⟩, C, q1, q2, q3, q4, q5, q6⟩ := M
  have i : iw (fun a => a = W + 32 + 8 * m + 1) h (yi h (W + 32 + 8 * m + 1) a (nI v)) := iw_yi _ _ _ _ rfl
  refine ⟨⟨W1, fun m' a' z1 z2 => ?_, W2.2⟩, CS_ts2 W1 C i (fun a q => by omega) (fun m hm => ?_), fun m' a' z1 z2 => ?_, fun m g a z1 z2 z3 => ?_, fun m z1 => ?_, fun a x z1 z2 => ?_, fun a x z1 z2 => ?_, fun x z1 => ?_⟩
  · show (if m' = m ∧ a' = a then v else tbd T m' a') < _
    split
    · rename_i e; rw [e.1]; exact hv
    · exact W2.1 m' a' z1 z2
  · rw [i.i _ (by omega)]; exact C.1.2.2 m hm
  · show _ = nI (if m' = m ∧ a' = a then v else tbd T m' a')
    by_cases e : m' = m ∧ a' = a
    · rw [if_pos e, e.1, e.2, xi_yi1]
    · rw [if_neg e, xi_yi2 _ _ (by omega)]; exact q1 m' a' z1 z2
  · rw [i.i _ (by omega)]; exact q2 m g a z1 z2 z3
  · rw [i.i _ (by omega)]; exact q3 m z1
  · have := W1.1.2.1; have := W1.1.2.2; rw [i.i _ (by omega)]; exact q4 a x z1 z2
  · have := W1.1.2.1; have := W1.1.2.2; rw [i.i _ (by omega)]; exact q5 a x z1 z2
  · rw [i.i _ (by omega)]; exact q6 x z1
theorem CIx_ac (M : CIx h W S T wh) {m g a v : Nat} (hm : m < snm S) (hg : g < nlS2 S m) (ha : a < nuS S m) (hv : v < nuS S m) : CIx (yi h (W + 32 + 8 * m + 2) (8 * g + a) (nI v)) W S (Tac T m g a v) wh := by
  have bm := M.cm hm
  have w8 := bm.wd.1
  have u8 : nuS S m ≤ 8 := w8.2.1
  obtain ⟨⟨W1, W2⟩, C, q1, q2, q3, q4, q5, q6⟩ := M
  have i : iw (fun a => a = W + 32 + 8 * m + 2) h (yi h (W + 32 + 8 * m + 2) (8 * g + a) (nI v)) := iw_yi _ _ _ _ rfl
  refine ⟨⟨W1, W2.1, fun m' g' a' z1 z2 z3 => ?_, W2.2.2⟩, CS_ts2 W1 C i (fun a q => by omega) (fun m hm => ?_), fun m' a' z1 z2 => ?_, fun m' g' a' z1 z2 z3 => ?_, fun m z1 => ?_, fun a x z1 z2 => ?_, fun a x z1 z2 => ?_, fun x z1 => ?_⟩
  · show (if m' = m ∧ g' = g ∧ a' = a then v else tac T m' g' a') < _
    split
    · rename_i e; rw [e.1]; exact hv
    · exact W2.2.1 m' g' a' z1 z2 z3
  · rw [i.i _ (by omega)]; exact C.1.2.2 m hm
  · rw [i.i _ (by omega)]; exact q1 m' a' z1 z2
  · show _ = nI (if m' = m ∧ g' = g ∧ a' = a then v else tac T m' g' a')
    by_cases e : m' = m ∧ g' = g ∧ a' = a
    · rw [if_pos e, e.1, e.2.1, e.2.2, xi_yi1]
    · rw [if_neg e]
      by_cases em : m' = m
      · subst em
        rw [xi_yi2 _ _ (Or.inr (by omega))]; exact q2 m' g' a' z1 z2 z3
      · rw [xi_yi2 _ _ (Or.inl (by omega))]; exact q2 m' g' a' z1 z2 z3
  · rw [i.i _ (by omega)]; exact q3 m z1
  · have := W1.1.2.1; have := W1.1.2.2; rw [i.i _ (by omega)]; exact q4 a x z1 z2
  · have := W1.1.2.1; have := W1.1.2.2; rw [i.i _ (by omega)]; exact q5 a x z1 z2
  · rw [i.i _ (by omega)]; exact q6 x z1
theorem CIx_tp (M : CIx h W S T wh) {a x v : Nat} (ha : a < sna S) (hx : x < nuS S (saf S a)) (hv : v < nuS S (sao S a)) : CIx (yi h (W + 80 + 3 * a + 1) x (nI v)) W S (Ttp T a x v) wh := by
  obtain ⟨⟨W1, W2⟩, C, q1, q2, q3, q4, q5, q6⟩ := M
  have b1 := W1.1
  have i : iw (fun b => b = W + 80 + 3 * a + 1) h (yi h (W + 80 + 3 * a + 1) x (nI v)) := iw_yi _ _ _ _ rfl
  refine ⟨⟨W1, W2.1, W2.2.1, fun a' x' z1 z2 => ?_, W2.2.2.2⟩, CS_ts2 W1 C i (fun a q => by omega) (fun m hm => ?_), fun m' a' z1 z2 => ?_, fun m' g' a' z1 z2 z3 => ?_, fun m z1 => ?_, fun a' x' z1 z2 => ?_, fun a x z1 z2 => ?_, fun x z1 => ?_⟩
  · show (if a' = a ∧ x' = x then v else ttp T a' x') < _
    split
    · rename_i e; rw [e.1]; exact hv
    · exact W2.2.2.1 a' x' z1 z2
  · rw [i.i _ (by omega)]; exact C.1.2.2 m hm
  · rw [i.i _ (by omega)]; exact q1 m' a' z1 z2
  · rw [i.i _ (by omega)]; exact q2 m' g' a' z1 z2 z3
  · rw [i.i _ (by omega)]; exact q3 m z1
  · show _ = nI (if a' = a ∧ x' = x then v else ttp T a' x')
    by_cases e : a' = a ∧ x' = x
    · rw [if_pos e, e.1, e.2, xi_yi1]
    · rw [if_neg e, xi_yi2 _ _ (by omega)]; exact q4 a' x' z1 z2
  · rw [i.i _ (by omega)]; exact q5 a x z1 z2
  · rw [i.i _ (by omega)]; exact q6 x z1
theorem CIx_bt (M : CIx h W S T wh) {a x v : Nat} (ha : a < sna S) (hx : x < nlS2 S (saf S a)) (hv : v < nlS2 S (sao S a)) : CIx (yi h (W + 80 + 3 * a + 2) x (nI v)) W S (Tbt T a x v) wh := by
  obtain ⟨⟨W1, W2⟩, C, q1, q2, q3, q4, q5, q6⟩ := M
  have b1 := W1.1
  have i : iw (fun b => b = W + 80 + 3 * a + 2) h (yi h (W + 80 + 3 * a + 2) x (nI v)) := iw_yi _ _ _ _ rfl
  refine ⟨⟨W1, W2.1, W2.2.1, W2.2.2.1, fun a' x' z1 z2 => ?_⟩, CS_ts2 W1 C i (fun a q => by omega) (fun m hm => ?_), fun m' a' z1 z2 => ?_, fun m' g' a' z1 z2 z3 => ?_, fun m z1 => ?_, fun a' x' z1 z2 => ?_, fun a' x' z1 z2 => ?_, fun x z1 => ?_⟩
  · show (if a' = a ∧ x' = x then v else tbt T a' x') < _
    split
    · rename_i e; rw [e.1]; exact hv
    · exact W2.2.2.2 a' x' z1 z2
  · rw [i.i _ (by omega)]; exact C.1.2.2 m hm
  · rw [i.i _ (by omega)]; exact q1 m' a' z1 z2
  · rw [i.i _ (by omega)]; exact q2 m' g' a' z1 z2 z3
  · rw [i.i _ (by omega)]; exact q3 m z1
  · rw [i.i _ (by omega)]; exact q4 a' x' z1 z2
  · show _ = nI (if a' = a ∧ x' = x then v else tbt T a' x')
    by_cases e : a' = a ∧ x' = x
    · rw [if_pos e, e.1, e.2, xi_yi1]
    · rw [if_neg e, xi_yi2 _ _ (by omega)]; exact q5 a' x' z1 z2
  · rw [i.i _ (by omega)]; exact q6 x z1
/-- one reason -/
theorem CIx_re (M : CIx h W S T wh) {m : Nat} (hm : m < snm S) (v : Nat) : CIx (yi h (W + 32 + 8 * m) 7 (nI v)) W S T (fun k => if k = m then v else wh k) := by
  obtain ⟨⟨W1, W2⟩, C, q1, q2, q3, q4, q5, q6⟩ := M
  have b1 := W1.1
  have i : iw (fun b => b = W + 32 + 8 * m) h (yi h (W + 32 + 8 * m) 7 (nI v)) := iw_yi _ _ _ _ rfl
  refine ⟨⟨W1, W2⟩, CS_ts2 W1 C i (fun a q => by omega) (fun m hm => ?_), fun m' a' z1 z2 => ?_, fun m' g' a' z1 z2 z3 => ?_, fun m' z1 => ?_, fun a' x' z1 z2 => ?_, fun a' x' z1 z2 => ?_, fun x z1 => ?_⟩
  · rw [xi_yi2 _ _ (Or.inr (by decide))]; exact C.1.2.2 m hm
  · rw [i.i _ (by omega)]; exact q1 m' a' z1 z2
  · rw [i.i _ (by omega)]; exact q2 m' g' a' z1 z2 z3
  · show _ = nI (if m' = m then v else wh m')
    by_cases e : m' = m
    · rw [if_pos e, e, xi_yi1]
    · rw [if_neg e, xi_yi2 _ _ (Or.inl (by omega))]; exact q3 m' z1
  · rw [i.i _ (by omega)]; exact q4 a' x' z1 z2
  · rw [i.i _ (by omega)]; exact q5 a' x' z1 z2
  · rw [i.i _ (by omega)]; exact q6 x z1
theorem Tcc_e {c c' : Nat → Int32} (e : ∀ k, c k = c' k) : Tcc T c = Tcc T c' := by rw [funext e]
/-- the world's cells that judging writes -/
abbrev rJd (W m a : Nat) : Prop := a = W + 32 + 8 * m ∨ a = W + 13
theorem FX7_judgeAgain_o (M : CIx h W S T wh) {m : Nat} (hm : m < snm S) (hw : wh m ≤ 5) (e : ∀ k, k < snm S → ¬ k = m → wh k = whS S T k) : xo (FX7_judgeAgain E W (W + 32 + 8 * m) h) (fun _ h' => iw (rJd W m) h h' ∧ CI h' W S (Tjd T (wh m) (whS S T m))) := by
  have C := M.cm hm
  have w5 := whS_le S T m
  have r7 : xi h (W + 32 + 8 * m) 7 = nI (wh m) := M.2.2.2.2.1 m hm
  have eF : FX1_firstReason E (W + 32 + 8 * m) h = xv (nI (whS S T m)) h := FX1_firstReason_v C
  have M2 := CIx_re M hm (whS S T m)
  have C2 := M2.cm hm
  have i2 : iw (rJd W m) h (yi h (W + 32 + 8 * m) 7 (nI (whS S T m))) := iw_yi _ _ _ _ (Or.inl rfl)
  have r72 : xi (yi h (W + 32 + 8 * m) 7 (nI (whS S T m))) (W + 32 + 8 * m) 7 = nI (whS S T m) := xi_yi1 _ _ _ _
  have hall : ∀ k, k < snm S → (if k = m then whS S T m else wh k) = whS S T k := fun k hk => by
    by_cases z : k = m
    · rw [if_pos z, z]
    · rw [if_neg z]; exact e k hk z
  unfold FX7_judgeAgain
  refine xo_g C.k (xo_lt (xo_g C.k (xo_eb eF (xo_g C.k (xo_lt (xo_jn ?_))))))
  rw [r7]
  generalize yi h (W + 32 + 8 * m) 7 (nI (whS S T m)) = h2 at *
  by_cases c1 : wh m = 0
  · refine xo_t (by rw [c1]; rfl) (xo_g C2.k ?_)
    rw [r72]
    by_cases c2 : whS S T m = 0
    · refine xo_t (by rw [c2]; rfl) (xo_jn (xo_t (by rw [c1]; rfl) (xo_v ⟨i2, ?_⟩)))
      have et : Tjd T (wh m) (whS S T m) = Tcc T (tcc T) := Tcc_e (fun k => by rw [if_neg (fun z => z.2.2 c2), if_neg (fun z => z.2.1 c1)])
      rw [et]
      exact M2.ci hall
    · have M3 := CIx_acc M2 (k := 1) (by omega) (tcc T 1 + 1)
      refine xo_f (by rw [nI_eq0 (by omega)]; exact c2) (xo_g M2.2.1.1.1.1 (xo_eb (FX7_addToAccount_o M2 (k := 1) (by omega)) (xo_jn (xo_t (by rw [c1]; rfl) (xo_v ⟨i2.yi _ _ _ (Or.inr rfl), ?_⟩)))))
      have et : Tjd T (wh m) (whS S T m) = Tcc T (fun j => if j = 1 then tcc T 1 + 1 else tcc T j) := Tcc_e (fun k => by
        by_cases z : k = 1
        · rw [if_pos ⟨z, c1, c2⟩, if_pos z]
        · rw [if_neg (fun q => z q.1), if_neg (fun q => c2 q.2.2), if_neg z])
      rw [et]
      exact M3.ci hall
  · refine xo_f (by rw [nI_eq0 (by omega)]; exact c1) (xo_jn (xo_f (by rw [nI_eq0 (by omega)]; exact c1) (xo_g C2.k ?_)))
    rw [r72]
    by_cases c2 : whS S T m = 0
    · have M3 := CIx_acc M2 (k := 2) (by omega) (tcc T 2 + 1)
      refine xo_t (by rw [c2]; rfl) (xo_g M2.2.1.1.1.1 (xo_eb (FX7_addToAccount_o M2 (k := 2) (by omega)) (xo_v ⟨i2.yi _ _ _ (Or.inr rfl), ?_⟩)))
      have et : Tjd T (wh m) (whS S T m) = Tcc T (fun j => if j = 2 then tcc T 2 + 1 else tcc T j) := Tcc_e (fun k => by
        by_cases z : k = 2
        · rw [if_neg (fun q => c1 q.2.1), if_pos ⟨z, c1, c2⟩, if_pos z]
        · rw [if_neg (fun q => c1 q.2.1), if_neg (fun q => z q.1), if_neg z])
      rw [et]
      exact M3.ci hall
    · refine xo_f (by rw [nI_eq0 (by omega)]; exact c2) (xo_v ⟨i2, ?_⟩)
      have et : Tjd T (wh m) (whS S T m) = Tcc T (tcc T) := Tcc_e (fun k => by rw [if_neg (fun z => c1 z.2.1), if_neg (fun z => c2 z.2.2)])
      rw [et]
      exact M2.ci hall
end CHG
