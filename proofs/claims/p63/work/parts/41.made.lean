/-! The sets that the reference makes. -/
set_option linter.unusedVariables false
theorem fld_up {g : Nat → Int32 → Int32} (hg : ∀ a x, sub x (g a x)) (x : Int32) : ∀ i j, i ≤ j → sub (fld g x i) (fld g x j) := by
  intro i j hij
  induction j with
  | zero => rw [show i = 0 by omega]; exact fun k hk => hk
  | succ j ih =>
    by_cases e : i = j + 1
    · rw [e]; exact fun k hk => hk
    · exact sub_trans (ih (by omega)) (hg j _)
theorem fld_stay {g : Nat → Int32 → Int32} (hg : ∀ a x, sub x (g a x)) {x : Int32} {n : Nat} (h : fld g x n = x) : ∀ a, a < n → g a x = x := by
  intro a ha
  have h1 : ∀ i, i ≤ n → fld g x i = x := fun i hi => by
    refine sub_antisymm ?_ (fld_up hg x 0 i (by omega))
    have := fld_up hg x i n hi
    rwa [h] at this
  have := h1 (a + 1) (by omega)
  rw [fld_s, h1 a (by omega)] at this
  exact this
def stpS (nrm : Bool) (t : Nat → Nat → Nat) (v : Nat → Nat) (a b : Nat) (x : Int32) : Int32 := (x ||| (if mb x b then sh (t a b) else 0)) ||| (if nrm then sh (t (t b a) (v b)) else 0)
def paS (nrm : Bool) (n : Nat) (t : Nat → Nat → Nat) (v : Nat → Nat) (a : Nat) (x : Int32) : Int32 := if mb x a then fld (fun b x => stpS nrm t v a b x) x n else x
def psS (nrm : Bool) (n : Nat) (t : Nat → Nat → Nat) (v : Nat → Nat) (x : Int32) : Int32 := fld (fun a x => paS nrm n t v a x) x n
def mkS (nrm : Bool) (n : Nat) (t : Nat → Nat → Nat) (v : Nat → Nat) (s : Int32) : Nat → Int32 := fld (fun _ x => psS nrm n t v x) (s ||| 1)
theorem sub_or {a b : Int32} : sub a (a ||| b) := fun k hk => by rw [mb_or, hk]; rfl
theorem stp_up (nrm : Bool) (t : Nat → Nat → Nat) (v : Nat → Nat) (a b : Nat) (x : Int32) : sub x (stpS nrm t v a b x) := sub_trans sub_or sub_or
theorem pa_up (nrm : Bool) (n : Nat) (t : Nat → Nat → Nat) (v : Nat → Nat) (a : Nat) (x : Int32) : sub x (paS nrm n t v a x) := by
  unfold paS
  split
  · exact fld_up (fun b y => stp_up nrm t v a b y) x 0 n (by omega)
  · exact fun k hk => hk
theorem ps_up (nrm : Bool) (n : Nat) (t : Nat → Nat → Nat) (v : Nat → Nat) (x : Int32) : sub x (psS nrm n t v x) := fld_up (fun a y => pa_up nrm n t v a y) x 0 n (by omega)
theorem fld_in {g : Nat → Int32 → Int32} {n : Nat} {P : Int32 → Prop} (hg : ∀ a x, a < n → P x → P (g a x)) {x : Int32} (h : P x) : ∀ i, i ≤ n → P (fld g x i) := by
  intro i hi
  induction i with
  | zero => exact h
  | succ i ih => exact hg i _ (by omega) (ih (by omega))
section MK
variable {n : Nat} {t : Nat → Nat → Nat} {v : Nat → Nat}
theorem ps_in (G : GA n t v) (hn : n ≤ 8) (nrm : Bool) {x : Int32} (h : inB n x) : inB n (psS nrm n t v x) := by
  refine fld_in (P := inB n) (fun a x ha hx => ?_) h n (Nat.le_refl _)
  show inB n (paS nrm n t v a x)
  unfold paS
  split
  · refine fld_in (P := inB n) (fun b x hb hx => ?_) hx n (Nat.le_refl _)
    intro k hk
    show mb (stpS nrm t v a b x) k = false
    have q1 := inB_sh (G.cl ha hb) (by omega) k hk
    have q2 := inB_sh (G.cl (G.cl hb ha) (G.iv hb)) (by omega) k hk
    unfold stpS
    rw [mb_or, mb_or, hx k hk]
    cases mb x b <;> cases nrm <;> simp [q1, q2, mb_0]
  · exact hx
theorem ps_least (G : GA n t v) (hn : n ≤ 8) (nrm : Bool) {r' : Int32} (h2 : ∀ a b, a < n → b < n → mb r' a = true → mb r' b = true → mb r' (t a b) = true) (h3 : nrm = true → ∀ c a, c < n → a < n → mb r' a = true → mb r' (t (t c a) (v c)) = true) {x : Int32} (h : sub x r') : sub (psS nrm n t v x) r' := by
  refine fld_in (P := fun y => sub y r') (fun a x ha hx => ?_) h n (Nat.le_refl _)
  show sub (paS nrm n t v a x) r'
  unfold paS
  by_cases hm : mb x a = true
  · rw [if_pos hm]
    refine (fld_in (n := n) (P := fun y => sub y r') (fun b x hb hx => ?_) hx n (Nat.le_refl _))
    rename_i x0 hx0
    intro k hk
    have hk : mb (stpS nrm t v a b x) k = true := hk
    unfold stpS at hk
    rw [mb_or, mb_or, Bool.or_eq_true, Bool.or_eq_true] at hk
    rcases hk with (q | q) | q
    · exact hx k q
    · by_cases hb2 : mb x b = true
      · rw [if_pos hb2, mb_sh (by have := G.cl ha hb; omega), decide_eq_true_eq] at q
        rw [q]
        exact h2 a b ha hb (hx0 a hm) (hx b hb2)
      · rw [if_neg hb2, mb_0] at q; cases q
    · cases hr : nrm
      · rw [hr] at q
        rw [if_neg (by decide), mb_0] at q
        cases q
      · rw [hr, if_pos rfl, mb_sh (by have := G.cl (G.cl hb ha) (G.iv hb); omega), decide_eq_true_eq] at q
        rw [q]
        exact h3 hr b a hb ha (hx0 a hm)
  · rw [if_neg hm]; exact hx
theorem ps_closed (G : GA n t v) (hn : n ≤ 8) (nrm : Bool) {x : Int32} (h : psS nrm n t v x = x) : (∀ a b, a < n → b < n → mb x a = true → mb x b = true → mb x (t a b) = true) ∧ (nrm = true → ∀ c a, c < n → a < n → mb x a = true → mb x (t (t c a) (v c)) = true) := by
  have h1 : ∀ a b, a < n → b < n → mb x a = true → stpS nrm t v a b x = x := fun a b ha hb hm => by
    have q := fld_stay (fun a y => pa_up nrm n t v a y) h a ha
    have q : paS nrm n t v a x = x := q
    unfold paS at q
    rw [if_pos hm] at q
    exact fld_stay (fun b y => stp_up nrm t v a b y) q b hb
  refine ⟨fun a b ha hb hm hm2 => ?_, fun hr c a hc ha hm => ?_⟩
  · have q := h1 a b ha hb hm
    rw [← q]
    unfold stpS
    rw [mb_or, mb_or, if_pos hm2, mb_sh (by have := G.cl ha hb; omega)]
    simp
  · have q := h1 a c ha hc hm
    rw [← q]
    unfold stpS
    rw [mb_or, hr, if_pos rfl, mb_sh (by have := G.cl (G.cl hc ha) (G.iv hc); omega)]
    simp
theorem mk_in (G : GA n t v) (h0 : 0 < n) (hn : n ≤ 8) (nrm : Bool) {s : Int32} (hs : inB n s) (i : Nat) : inB n (mkS nrm n t v s i) := by
  induction i with
  | zero =>
    intro k hk
    show mb (s ||| 1) k = false
    rw [mb_or, hs k hk, mb_1]
    simp; omega
  | succ i ih => exact ps_in G hn nrm ih
theorem mk_up (nrm : Bool) (s : Int32) (i : Nat) : sub (mkS nrm n t v s i) (mkS nrm n t v s (i + 1)) := ps_up nrm n t v _
theorem mk_up0 (nrm : Bool) (s : Int32) (i : Nat) : sub (s ||| 1) (mkS nrm n t v s i) := by
  induction i with
  | zero => exact fun k hk => hk
  | succ i ih => exact sub_trans ih (mk_up nrm s i)
theorem mk_least (G : GA n t v) (hn : n ≤ 8) (nrm : Bool) {s r' : Int32} (h1 : sub (s ||| 1) r') (h2 : ∀ a b, a < n → b < n → mb r' a = true → mb r' b = true → mb r' (t a b) = true) (h3 : nrm = true → ∀ c a, c < n → a < n → mb r' a = true → mb r' (t (t c a) (v c)) = true) (i : Nat) : sub (mkS nrm n t v s i) r' := by
  induction i with
  | zero => exact h1
  | succ i ih => exact ps_least G hn nrm h2 h3 ih
variable {E : XG} {h : XH} {Y g : Nat}
end MK
