/-! The sets that the reference makes. -/
set_option linter.unusedVariables false
theorem fld_up {g : Nat → Int32 → Int32} (hg : ∀ a x, sub x (g a x)) (x : Int32) : ∀ i j, i ≤ j → sub (fld g x i) (fld g x j) := by
  intro i j hij
  induction j with
  | zero => rw [show i = 0 by omega]; exact fun k hk => hk
  | succ j ih =>
    by_cases e : i = j + 1
    · rw [e]; exact fun k hk => hk
    · exact sub_trans (ih (by omega)) (hg j _)
theorem fld_stay {g : Nat → Int32 → Int32} (hg : ∀ a x, sub x (g a x)) {x : Int32} {n : Nat} (h : fld g x n = x) : ∀ a, a < n → g a x = x := by
  intro a ha
  have h1 : ∀ i, i ≤ n → fld g x i = x := fun i hi => by
    refine sub_antisymm ?_ (fld_up hg x 0 i (by omega))
    have := fld_up hg x i n hi
    rwa [h] at this
  have := h1 (a + 1) (by omega)
  rw [fld_s, h1 a (by omega)] at this
  exact this
def stpS (nrm : Bool) (t : Nat → Nat → Nat) (v : Nat → Nat) (a b : Nat) (x : Int32) : Int32 := (x ||| (if mb x b then sh (t a b) else 0)) ||| (if nrm then sh (t (t b a) (v b)) else 0)
def paS (nrm : Bool) (n : Nat) (t : Nat → Nat → Nat) (v : Nat → Nat) (a : Nat) (x : Int32) : Int32 := if mb x a then fld (fun b x => stpS nrm t v a b x) x n else x
def psS (nrm : Bool) (n : Nat) (t : Nat → Nat → Nat) (v : Nat → Nat) (x : Int32) : Int32 := fld (fun a x => paS nrm n t v a x) x n
def mkS (nrm : Bool) (n : Nat) (t : Nat → Nat → Nat) (v : Nat → Nat) (s : Int32) : Nat → Int32 := fld (fun _ x => psS nrm n t v x) (s ||| 1)
theorem sub_or {a b : Int32} : sub a (a ||| b) := fun k hk => by rw [mb_or, hk]; rfl
theorem stp_up (nrm : Bool) (t : Nat → Nat → Nat) (v : Nat → Nat) (a b : Nat) (x : Int32) : sub x (stpS nrm t v a b x) := sub_trans sub_or sub_or
theorem pa_up (nrm : Bool) (n : Nat) (t : Nat → Nat → Nat) (v : Nat → Nat) (a : Nat) (x : Int32) : sub x (paS nrm n t v a x) := by
  unfold paS
  split
  · exact fld_up (fun b y => stp_up nrm t v a b y) x 0 n (by omega)
  · exact fun k hk => hk
theorem ps_up (nrm : Bool) (n : Nat) (t : Nat → Nat → Nat) (v : Nat → Nat) (x : Int32) : sub x (psS nrm n t v x) := fld_up (fun a y => pa_up nrm n t v a y) x 0 n (by omega)
theorem fld_in {g : Nat → Int32 → Int32} {n : Nat} {P : Int32 → Prop} (hg : ∀ a x, a < n → P x → P (g a x)) {x : Int32} (h : P x) : ∀ i, i ≤ n → P (fld g x i) := by
  intro i hi
  induction i with
  | zero => exact h
  | succ i ih => exact hg i _ (by omega) (ih (by omega))
section MK
variable {n : Nat} {t : Nat → Nat → Nat} {v : Nat → Nat}
theorem ps_in (G : GA n t v) (hn : n ≤ 8) (nrm : Bool) {x : Int32} (h : inB n x) : inB n (psS nrm n t v x) := by
  refine fld_in (P := inB n) (fun a x ha hx => ?_) h n (Nat.le_refl _)
  show inB n (paS nrm n t v a x)
  unfold paS
  split
  · refine fld_in (P := inB n) (fun b x hb hx => ?_) hx n (Nat.le_refl _)
    intro k hk
    show mb (stpS nrm t v a b x) k = false
    have q1 := inB_sh (G.cl ha hb) (by omega) k hk
    have q2 := inB_sh (G.cl (G.cl hb ha) (G.iv hb)) (by omega) k hk
    unfold stpS
    rw [mb_or, mb_or, hx k hk]
    cases mb x b <;> cases nrm <;> simp [q1, q2, mb_0]
  · exact hx
theorem ps_least (G : GA n t v) (hn : n ≤ 8) (nrm : Bool) {r' : Int32} (h2 : ∀ a b, a < n → b < n → mb r' a = true → mb r' b = true → mb r' (t a b) = true) (h3 : nrm = true → ∀ c a, c < n → a < n → mb r' a = true → mb r' (t (t c a) (v c)) = true) {x : Int32} (h : sub x r') : sub (psS nrm n t v x) r' := by
  refine fld_in (P := fun y => sub y r') (fun a x ha hx => ?_) h n (Nat.le_refl _)
  show sub (paS nrm n t v a x) r'
  unfold paS
  by_cases hm : mb x a = true
  · rw [if_pos hm]
    refine (fld_in (n := n) (P := fun y => sub y r') (fun b x hb hx => ?_) hx n (Nat.le_refl _))
    rename_i x0 hx0
    intro k hk
    have hk : mb (stpS nrm t v a b x) k = true := hk
    unfold stpS at hk
    rw [mb_or, mb_or, Bool.or_eq_true, Bool.or_eq_true] at hk
    rcases hk with (q | q) | q
    · exact hx k q
    · by_cases hb2 : mb x b = true
      · rw [if_pos hb2, mb_sh (by have := G.cl ha hb; omega), decide_eq_true_eq] at q
        rw [q]
        exact h2 a b ha hb (hx0 a hm) (hx b hb2)
      · rw [if_neg hb2, mb_0] at q; cases q
    · cases hr : nrm
      · rw [hr] at q
        rw [if_neg (by decide), mb_0] at q
        cases q
      · rw [hr, if_pos rfl, mb_sh (by have := G.cl (G.cl hb ha) (G.iv hb); omega), decide_eq_true_eq] at q
        rw [q]
        exact h3 hr b a hb ha (hx0 a hm)
  · rw [if_neg hm]; exact hx
theorem ps_closed (G : GA n t v) (hn : n ≤ 8) (nrm : Bool) {x : Int32} (h : psS nrm n t v x = x) : (∀ a b, a < n → b < n → mb x a = true → mb x b = true → mb x (t a b) = true) ∧ (nrm = true → ∀ c a, c < n → a < n → mb x a = true → mb x (t (t c a) (v c)) = true) := by
  have h1 : ∀ a b, a < n → b < n → mb x a = true → stpS nrm t v a b x = x := fun a b ha hb hm => by
    have q := fld_stay (fun a y => pa_up nrm n t v a y) h a ha
    have q : paS nrm n t v a x = x := q
    unfold paS at q
    rw [if_pos hm] at q
    exact fld_stay (fun b y => stp_up nrm t v a b y) q b hb
  refine ⟨fun a b ha hb hm hm2 => ?_, fun hr c a hc ha hm => ?_⟩
  · have q := h1 a b ha hb hm
    rw [← q]
    unfold stpS
    rw [mb_or, mb_or, if_pos hm2, mb_sh (by have := G.cl ha hb; omega)]
    simp
  · have q := h1 a c ha hc hm
    rw [← q]
    unfold stpS
    rw [mb_or, hr, if_pos rfl, mb_sh (by have := G.cl (G.cl hc ha) (G.iv hc); omega)]
    simp
theorem mk_in (G : GA n t v) (h0 : 0 < n) (hn : n ≤ 8) (nrm : Bool) {s : Int32} (hs : inB n s) (i : Nat) : inB n (mkS nrm n t v s i) := by
  induction i with
  | zero =>
    intro k hk
    show mb (s ||| 1) k = false
    rw [mb_or, hs k hk, mb_1]
    simp; omega
  | succ i ih => exact ps_in G hn nrm ih
theorem mk_up (nrm : Bool) (s : Int32) (i : Nat) : sub (mkS nrm n t v s i) (mkS nrm n t v s (i + 1)) := ps_up nrm n t v _
theorem mk_up0 (nrm : Bool) (s : Int32) (i : Nat) : sub (s ||| 1) (mkS nrm n t v s i) := by
  induction i with
  | zero => exact fun k hk => hk
  | succ i ih => exact sub_trans ih (mk_up nrm s i)
theorem mk_least (G : GA n t v) (hn : n ≤ 8) (nrm : Bool) {s r' : Int32} (h1 : sub (s ||| 1) r') (h2 : ∀ a b, a < n → b < n → mb r' a = true → mb r' b = true → mb r' (t a b) = true) (h3 : nrm = true → ∀ c a, c < n → a < n → mb r' a = true → mb r' (t (t c a) (v c)) = true) (i : Nat) : sub (mkS nrm n t v s i) r' := by
  induction i with
  | zero => exact h1
  | succ i ih => exact ps_least G hn nrm h2 h3 ih
variable {E : XG} {h : XH} {Y g : Nat}
theorem FX9_made_o (y : YL h Y) (G0 : YG h Y g n t) (G : GA n t v) (nrm : Bool) {s : Int32} (hs : inB n s) : ∃ r, FX9_made E Y (nI g) s (bI nrm) h = xv r h ∧ inB n r ∧ sub (s ||| 1) r ∧ (∀ a b, a < n → b < n → mb r a = true → mb r b = true → mb r (t a b) = true) ∧ (nrm = true → ∀ c a, c < n → a < n → mb r a = true → mb r (t (t c a) (v c)) = true) ∧ ∀ r', sub (s ||| 1) r' → (∀ a b, a < n → b < n → mb r' a = true → mb r' b = true → mb r' (t a b) = true) → (nrm = true → ∀ c a, c < n → a < n → mb r' a = true → mb r' (t (t c a) (v c)) = true) → sub r r' := by
  obtain ⟨g1, g2, g3, g4, g5⟩ := id G0
  obtain ⟨k0, hk0, hst⟩ := chain_stop (mkS nrm n t v s) n (mk_up nrm s) (mk_in G g3 g4 nrm hs)
  have hone : 1 ≤ cnt (mkS nrm n t v s 0) n := cnt_one (by show mb (s ||| 1) 0 = true; rw [mb_or, mb_1]; simp) n g3
  obtain ⟨k, k1, k2, k3⟩ := first_of (P := fun k => mkS nrm n t v s (k + 1) = mkS nrm n t v s k) hst
  have hcl := ps_closed G g4 nrm (x := mkS nrm n t v s k) k2
  refine ⟨mkS nrm n t v s (k + 1), ?_, mk_in G g3 g4 nrm hs _, mk_up0 nrm s _, ?_, ?_, fun r' h1 h2 h3 => mk_least G g4 nrm h1 h2 h3 _⟩
  · have rz : xi h (Y + 1) (nI g).toNatClampNeg = nI n := by rw [xz_nI (by omega)]; exact g2
    unfold FX9_made
    rw [xlt_d]
    refine xlp_all (fun i => (mkS nrm n t v s i, (if i = 0 then 0 else mkS nrm n t v s (i - 1)))) (fun _ => h) (k + 1) (by omega) (fun i hi ag => ?_) (fun ag => ?_)
    · have hne : ¬ mkS nrm n t v s i = (if i = 0 then 0 else mkS nrm n t v s (i - 1)) := by
        by_cases e : i = 0
        · subst e
          rw [if_pos rfl]
          intro q
          have h2 := mk_up0 (n := n) (t := t) (v := v) nrm s 0 0 (by rw [mb_or, mb_1]; simp)
          rw [q, mb_0] at h2
          cases h2
        · rw [if_neg e]
          have := k3 (i - 1) (by omega)
          rw [show i - 1 + 1 = i by omega] at this
          exact this
      (try dsimp only); (rw [if_neg hne])
      rw [if_neg (show ¬ i + 1 = 0 by omega), show i + 1 - 1 = i by omega]
      show _ = ag (psS nrm n t v (mkS nrm n t v s i), _) h
      generalize mkS nrm n t v s i = x0
      refine xlp_all (fun a => (fld (fun a x => paS nrm n t v a x) x0 a, nI a)) (fun _ => h) n (by omega) (fun a ha ag' => ?_) (fun ag' => ?_)
      · (try dsimp only); (rw [xg_t (y.1), xnn_e (y.r1), xg_t (y.g1 g1), rz, if_neg (nI_ge ha (by omega))])
        rw [fld_s]
        generalize fld (fun a x => paS nrm n t v a x) x0 a = x
        unfold paS
        cases hm : mb x a
        · rw [if_neg (by decide)]
          refine (xlp_all (fun b => (x, nI b)) (fun _ => h) 0 (by omega) (fun b hb => by omega) (fun ag2 => ?_))
          (try dsimp only); (rw [xg_t (y.1), xnn_e (y.r1), xg_t (y.g1 g1), xjn_d, rz, if_neg (nI_ge (show 0 < n by omega) (by omega)), xb_eq (FX9_has_v x (show a < 32 by omega)), hm, nI_s])
          rfl
        · rw [if_pos rfl]
          refine (xlp_all (fun b => (fld (fun b x => stpS nrm t v a b x) x b, nI b)) (fun _ => h) n (by omega) (fun b hb ag2 => ?_) (fun ag2 => ?_))
          · have hmb : mb (fld (fun b x => stpS nrm t v a b x) x b) a = true := fld_up (fun b y => stp_up nrm t v a b y) x 0 b (by omega) a hm
            (try dsimp only); (rw [xg_t (y.1), xnn_e (y.r1), xg_t (y.g1 g1), xjn_d, rz, if_neg (nI_ge hb (by omega)), xb_eq (FX9_has_v _ (show a < 32 by omega)), hmb, if_neg (show ¬ bI true = (0 : Int32) by decide), xb_eq (FX9_has_v _ (show b < 32 by omega))])
            rw [fld_s]
            generalize fld (fun b x => stpS nrm t v a b x) x b = z
            unfold stpS
            have e1 := FX9_of_v (E := E) y G0 ha hb
            have e2 := FX9_conjugateOf_v (E := E) y G0 G hb ha
            cases hz : mb z b
            · cases nrm
              · simp (disch := omega) only [↓xg, ↓reduceIte, ↓xjn_d, ↓xlt_d, eq_self, and_self, and_true, true_and, not_true, not_false_iff, ne_eq, true_or, or_true, or_false, false_or, nI_s, nI_leP, nI_eqP, xlt_d, bI, Bool.false_eq_true]
              · simp (disch := omega) only [↓xg, ↓reduceIte, ↓xjn_d, ↓xlt_d, eq_self, and_self, and_true, true_and, not_true, not_false_iff, ne_eq, true_or, or_true, or_false, false_or, nI_s, nI_leP, nI_eqP, xlt_d, bI, Bool.false_eq_true, i1_0, y.1, ↓xb_eq (e2), sh_d]
            · cases nrm
              · simp (disch := omega) only [↓xg, ↓reduceIte, ↓xjn_d, ↓xlt_d, eq_self, and_self, and_true, true_and, not_true, not_false_iff, ne_eq, true_or, or_true, or_false, false_or, nI_s, nI_leP, nI_eqP, xlt_d, bI, Bool.false_eq_true, i1_0, y.1, ↓xb_eq (e1), sh_d]
              · simp (disch := omega) only [↓xg, ↓reduceIte, ↓xjn_d, ↓xlt_d, eq_self, and_self, and_true, true_and, not_true, not_false_iff, ne_eq, true_or, or_true, or_false, false_or, nI_s, nI_leP, nI_eqP, xlt_d, bI, Bool.false_eq_true, i1_0, y.1, ↓xb_eq (e1), ↓xb_eq (e2), sh_d]
          · (try dsimp only); (rw [xg_t (y.1), xnn_e (y.r1), xg_t (y.g1 g1), xjn_d, rz, if_pos (Int32.le_refl _), nI_s])
      · (try dsimp only); (rw [xg_t (y.1), xnn_e (y.r1), xg_t (y.g1 g1), rz, if_pos (Int32.le_refl _)])
        rfl
    · have e1 : mkS nrm n t v s (k + 1) = (if k + 1 = 0 then 0 else mkS nrm n t v s (k + 1 - 1)) := by rw [if_neg (by omega), show k + 1 - 1 = k by omega]; exact k2
      (try dsimp only); (rw [if_pos e1])
  · rw [k2]; exact hcl.1
  · rw [k2]; exact hcl.2
end MK
