/-! The law's tables of groups. -/
set_option linter.unusedVariables false
/-- G: n rows of k ints, one behind the other -/
def lS (h : XH) (G n k : Nat) : Prop := (xk h G = 18 ∧ xn h G = n) ∧ ∀ a, a < n → xr h G a = some (G + 1 + a) ∧ xk h (G + 1 + a) = 12 ∧ xn h (G + 1 + a) = k
/-- they hold t -/
def lV (h : XH) (G n k : Nat) (t : Nat → Nat → Nat) : Prop := lS h G n k ∧ ∀ a b, a < n → b < k → xi h (G + 1 + a) b = nI (t a b)
theorem xo_mg {α : Type} {h : XH} {n k : Nat} {f : Nat → XH → XP α} {Q : α → XH → Prop} (hm : xo (f (xt h) (ygr h n k n)) Q) : xo (xmg h n k f) Q := hm
section TAB
variable {E : XG} {h h' : XH} {G n k : Nat} {t : Nat → Nat → Nat} {v : Nat → Nat} {D : Nat → Prop} {c u : Nat} {h0 : XH}
theorem lS_sm (q : lS h G n k) (e : ∀ a, G ≤ a → a ≤ G + n → smC a h h') : lS h' G n k :=
  ⟨⟨(e G (by omega) (by omega)).1.1.trans q.1.1, (e G (by omega) (by omega)).1.2.trans q.1.2⟩, fun a ha => ⟨((e G (by omega) (by omega)).2.2.2 _).trans (q.2 a ha).1, (e (G + 1 + a) (by omega) (by omega)).1.1.trans (q.2 a ha).2.1, (e (G + 1 + a) (by omega) (by omega)).1.2.trans (q.2 a ha).2.2⟩⟩
theorem lV_sm (q : lV h G n k t) (e : ∀ a, G ≤ a → a ≤ G + n → smC a h h') : lV h' G n k t := ⟨lS_sm q.1 e, fun a b ha hb => ((e (G + 1 + a) (by omega) (by omega)).2.1 _).trans (q.2 a b ha hb)⟩
theorem lV_gr (q : lV h G n k t) (g : Gr D c u h h') (hG : G + n < xt h) (d : ∀ a, G ≤ a → a ≤ G + n → ¬ D a) : lV h' G n k t := lV_sm q (fun a a1 a2 => g.s (by omega) (d a a1 a2))
/-- the guard ahead of a row, ahead of a cell -/
theorem lS_g (q : lS h G n k) {a : Nat} (ha : a < n) (hn : n < 2 ^ 31) : xk h G = 18 ∧ xin (nI a) (xn h G) := ⟨q.1.1, by rw [q.1.2]; exact xin_nI ha hn⟩
theorem lS_r (q : lS h G n k) {a : Nat} (ha : a < n) (hn : n < 2 ^ 31) : xr h G (nI a).toNatClampNeg = some (G + 1 + a) := by rw [xz_nI (by omega)]; exact (q.2 a ha).1
theorem lS_c (q : lS h G n k) {a b : Nat} (ha : a < n) (hb : b < k) (hk : k < 2 ^ 31) : xk h (G + 1 + a) = 12 ∧ xin (nI b) (xn h (G + 1 + a)) := ⟨(q.2 a ha).2.1, by rw [(q.2 a ha).2.2]; exact xin_nI hb hk⟩
theorem lV_v (q : lV h G n k t) {a b : Nat} (ha : a < n) (hb : b < k) (hk : k < 2 ^ 31) : xi h (G + 1 + a) (nI b).toNatClampNeg = nI (t a b) := by rw [xz_nI (by omega)]; exact q.2 a b ha hb
/-- a cell read -/
theorem lrd {α : Type} (q : lV h G n k t) (hn : n < 2 ^ 31) (hk : k < 2 ^ 31) {a b : Nat} (ha : a < n) (hb : b < k) {f : Nat → XP α} {m : XP α} (e : xg (xk h (G + 1 + a) = 12 ∧ xin (nI b) (xn h (G + 1 + a))) m = f (G + 1 + a)) : xg (xk h G = 18 ∧ xin (nI a) (xn h G)) (xnn (xr h G (nI a).toNatClampNeg) f) = m := by
  rw [xg_t (lS_g q.1 ha hn), xnn_e (lS_r q.1 ha hn), ← e, xg_t (lS_c q.1 ha hb hk)]
theorem lrow {α : Type} (q : lS h G n k) (hn : n < 2 ^ 31) {a : Nat} (ha : a < n) (f : Nat → XP α) : xg (xk h G = 18 ∧ xin (nI a) (xn h G)) (xnn (xr h G (nI a).toNatClampNeg) f) = f (G + 1 + a) := by
  rw [xg_t (lS_g q ha hn), xnn_e (lS_r q ha hn)]
theorem lwr {α : Type} (q : lS h G n k) {a b : Nat} (ha : a < n) (hb : b < k) (hk : k < 2 ^ 31) {x : Int32} {f : XH → XP α} : xg (xk h (G + 1 + a) = 12 ∧ xin (nI b) (xn h (G + 1 + a))) (xlt (yi h (G + 1 + a) (nI b).toNatClampNeg x) f) = f (yi h (G + 1 + a) b x) := by
  rw [xg_t (lS_c q ha hb hk), xz_nI (Nat.lt_trans hb hk), xlt_d]
/-- a group's table -/
abbrev lT (h : XH) (G n : Nat) (t : Nat → Nat → Nat) : Prop := lV h G n n t
theorem inv_v (q : lT h G n t) (g : GA n t v) (hn : n ≤ 8) {a : Nat} (ha : a < n) : FL_inverse E G (nI a) h = xv (nI (v a)) h := by
  have hv := g.iv ha
  unfold FL_inverse
  refine xlp_all (fun i => nI i) (fun _ => h) (v a) (by omega) (fun i hi ag => ?_) (fun ag => ?_)
  · have hi2 : i < n := by omega
    rw [lrow q.1 (by omega) ha, xg_t (lS_c q.1 ha hi2 (by omega)), lV_v q ha hi2 (by omega), if_neg, nI_s]
    rw [nI_eq0 (by have := g.cl ha hi2; omega)]
    intro z
    have := g.vu ha hi2 z
    omega
  · rw [lrow q.1 (by omega) ha, xg_t (lS_c q.1 ha hv (by omega)), lV_v q ha hv (by omega), if_pos]
    rw [g.ir ha]; rfl
theorem ord_v (q : lT h G n t) (g : GA n t v) (hn : n ≤ 8) {a : Nat} (ha : a < n) : FL_order E G (nI a) h = xv (nI (odS t a)) h := by
  have hp : ∀ i, pw t a i < n := pw_lt (fun x y hx hy => g.cl hx hy) ha
  obtain ⟨f1, f2⟩ := od_first g hn ha
  have f3 := fi_le 7 (fun i => pw t a i == 0)
  unfold FL_order odS
  refine xlp_all (fun i => (nI (i + 1), nI (pw t a i))) (fun _ => h) (fi 7 (fun i => pw t a i == 0)) (by omega) (fun i hi ag => ?_) (fun ag => ?_)
  · dsimp only
    rw [if_neg (by rw [nI_eq0 (by have := hp i; omega)]; exact f2 i hi), lrow q.1 (by omega) (hp i), xg_t (lS_c q.1 (hp i) ha (by omega)), lV_v q (hp i) ha (by omega), xlt_d, nI_s]
    rfl
  · dsimp only
    rw [if_pos (by rw [f1]; rfl)]
theorem abl_o (q : lT h G n t) (hn : n ≤ 8) (ht : ∀ a b, a < n → b < n → t a b < n) : xo (FL_isAbelian E G h) (fun v h' => (v = 0 ∨ v = 1) ∧ h' = h) := by
  unfold FL_isAbelian
  refine xlp_inv (Po := fun m => xo m _) (fun i s h' => s.2 = nI i ∧ (s.1 = 0 ∨ s.1 = 1) ∧ h' = h) n (by omega) (fun i s h' ag hi J again => ?_) ⟨rfl, Or.inr rfl, rfl⟩
  obtain ⟨J1, J2, rfl⟩ := J
  refine xo_g q.1.1.1 ?_
  rw [q.1.1.2, J1, ofNat_nI]
  by_cases e : i = n
  · subst e
    exact xo_t (Int32.le_refl _) (xo_g J2 (xo_v ⟨J2, rfl⟩))
  · have hlt : i < n := by omega
    refine xo_f (nI_ge hlt (by omega)) ?_
    refine xlp_inv (Po := fun m => xo m _) (fun j s h2 => s.2 = nI j ∧ (s.1 = 0 ∨ s.1 = 1) ∧ h2 = h') i (by omega) (fun j s2 h2 ag2 hj J again2 => ?_) ⟨rfl, J2, rfl⟩
    obtain ⟨K1, K2, rfl⟩ := J
    rw [K1]
    by_cases e2 : j = i
    · subst e2
      refine xo_t (Int32.le_refl _) ?_
      rw [nI_s]
      exact again hlt _ _ ⟨rfl, K2, rfl⟩
    · have hlj : j < i := by omega
      refine xo_f (nI_ge hlj (by omega)) ?_
      rw [lrow q.1 (by omega) hlt, xg_t (lS_c q.1 hlt (show j < n by omega) (by omega)), lrow q.1 (by omega) (show j < n by omega), xg_t (lS_c q.1 (show j < n by omega) hlt (by omega)), xjn_d, nI_s]
      have K3 : s2.1 &&& 1 = s2.1 ∧ s2.1 &&& 0 = 0 := by rcases K2 with z | z <;> rw [z] <;> decide
      split
      · exact again2 hlj _ _ ⟨rfl, by dsimp only; rw [K3.1]; exact K2, rfl⟩
      · exact again2 hlj _ _ ⟨rfl, by dsimp only; rw [K3.2]; exact Or.inl rfl, rfl⟩
/-- a table that is being written: i rows, and j cells -/
def FI (h0 : XH) (D : Nat → Prop) (c u G n k : Nat) (t : Nat → Nat → Nat) (i j : Nat) (h : XH) : Prop := (Gr D c u h0 h ∧ xt h0 ≤ G ∧ xt h = G + 1 + n) ∧ lS h G n k ∧ ∀ a b, a < n → b < k → (a < i ∨ (a = i ∧ b < j)) → xi h (G + 1 + a) b = nI (t a b)
theorem ygr_lS (h : XH) (n k : Nat) : lS (ygr h n k n) (xt h) n k := ⟨(ygr_f h n k n).1, (ygr_f h n k n).2.1⟩
theorem FI_0 (g : Gr D c u h0 h) (n k : Nat) (t : Nat → Nat → Nat) : FI h0 D (c + 1 + n) (u + n + n * k) (xt h) n k t 0 0 (ygr h n k n) := ⟨⟨Gr_ygr g n k n, g.t, ygr_t h n k n⟩, ygr_lS h n k, fun a b _ _ q => by omega⟩
theorem FI_row {i : Nat} (q : FI h0 D c u G n k t i k h) : FI h0 D c u G n k t (i + 1) 0 h := ⟨q.1, q.2.1, fun a b ha hb z => q.2.2 a b ha hb (by omega)⟩
theorem FI_put {i j : Nat} (q : FI h0 D c u G n k t i j h) (hi : i < n) (hj : j < k) : FI h0 D c u G n k t i (j + 1) (yi h (G + 1 + i) j (nI (t i j))) := by
  obtain ⟨⟨q1, q2, q3⟩, q4, q5⟩ := q
  refine ⟨⟨Gr_yi q1 (by omega) (fun z => by omega), q2, q3⟩, ⟨q4.1, fun a ha => q4.2 a ha⟩, fun a b ha hb z => ?_⟩
  by_cases e : a = i ∧ b = j
  · rw [e.1, e.2]; exact xi_yi1 _ _ _ _
  · rw [xi_yi2 _ _ (by omega)]
    exact q5 a b ha hb (by omega)
theorem FI_end (q : FI h0 D c u G n k t n 0 h) : lV h G n k t := ⟨q.2.1, fun a b ha hb => q.2.2 a b ha hb (Or.inl ha)⟩
/-- made with a table -/
def TM (h0 h : XH) (D : Nat → Prop) (c u n : Nat) (t : Nat → Nat → Nat) : Nat → XH → Prop := fun G h' => G = xt h ∧ xt h' = xt h + 1 + n ∧ lT h' (xt h) n t ∧ Gr D (c + 1 + n) (u + n + n * n) h0 h'
theorem TM_of (g : xt h = G) (q : FI h0 D (c + 1 + n) (u + n + n * n) G n n t n 0 h') : TM h0 h D c u n t G h' := by
  subst g
  exact ⟨rfl, q.1.2.2, FI_end q, q.1.1⟩
theorem lcyc_o (g : Gr D c u h0 h) (h1 : 0 < n) (hn : n ≤ 8) : xo (FL_cyclic E (nI n) h) (TM h0 h D c u n (gCyc n).2.1) := by
  unfold FL_cyclic
  refine xo_g ⟨⟨nI_0le' (by omega), nI_0le' (by omega)⟩, by rw [xz_nI (by omega)]; omega, by rw [xz_nI (by omega)]; omega⟩ ?_
  rw [xz_nI (by omega)]
  refine xo_mg ?_
  refine xlp_inv (Po := fun m => xo m _) (fun i s h' => s = nI i ∧ FI h0 D (c + 1 + n) (u + n + n * n) (xt h) n n (gCyc n).2.1 i 0 h') n (by omega) (fun i s h' ag hi J again => ?_) ⟨rfl, FI_0 g n n _⟩
  obtain ⟨rfl, J⟩ := J
  by_cases e : i = n
  · subst e
    exact xo_t (Int32.le_refl _) (xo_v (TM_of rfl J))
  · have hlt : i < n := by omega
    refine xo_f (nI_ge hlt (by omega)) ?_
    refine xlp_inv (Po := fun m => xo m _) (fun j s h' => s = nI j ∧ FI h0 D (c + 1 + n) (u + n + n * n) (xt h) n n (gCyc n).2.1 i j h') n (by omega) (fun j s2 h2 ag2 hj J2 again2 => ?_) ⟨rfl, J⟩
    obtain ⟨rfl, J2⟩ := J2
    by_cases e2 : j = n
    · subst e2
      refine xo_t (Int32.le_refl _) ?_
      rw [nI_s]
      exact again hlt _ _ ⟨rfl, FI_row J2⟩
    · have hlj : j < n := by omega
      refine xo_f (nI_ge hlj (by omega)) ?_
      rw [lrow J2.2.1 (by omega) hlt, nI_s, nI_a, rem_nI (by omega) h1 (by omega)]
      refine xo_g (show nI n ≠ 0 from by rw [Ne, nI_eq0 (by omega)]; omega) ?_
      rw [lwr J2.2.1 hlt hlj (by omega)]
      exact again2 hlj _ _ ⟨rfl, FI_put J2 hlt hlj⟩
theorem dihV : ∀ a, a < 6 → ∀ b, b < 6 → (xrem (if (3 : Int32) ≤ nI a then nI a - 3 + 3 - xrem (nI b) 3 else nI a + xrem (nI b) 3) 3 + (if (if (3 : Int32) ≤ nI a then (0 : Int32) else 1) = (if (3 : Int32) ≤ nI b then (0 : Int32) else 1) then (0 : Int32) else 3)) = nI ((gDih 3).2.1 a b) := by decide +kernel
theorem ldih_o (g : Gr D c u h0 h) : xo (FL_dihedral E 3 h) (TM h0 h D c u 6 (gDih 3).2.1) := by
  unfold FL_dihedral
  rw [show (2 * 3 : Int32) = nI 6 from rfl]
  refine xo_g (by decide) ?_
  rw [xz_nI (by omega)]
  refine xo_mg ?_
  refine xlp_inv (Po := fun m => xo m _) (fun i s h' => s = nI i ∧ FI h0 D (c + 1 + 6) (u + 6 + 6 * 6) (xt h) 6 6 (gDih 3).2.1 i 0 h') 6 (by omega) (fun i s h' ag hi J again => ?_) ⟨rfl, FI_0 g 6 6 _⟩
  obtain ⟨rfl, J⟩ := J
  by_cases e : i = 6
  · subst e
    exact xo_t (Int32.le_refl _) (xo_v (TM_of rfl J))
  · have hlt : i < 6 := by omega
    refine xo_f (nI_ge hlt (by omega)) ?_
    refine xlp_inv (Po := fun m => xo m _) (fun j s h' => s = nI j ∧ FI h0 D (c + 1 + 6) (u + 6 + 6 * 6) (xt h) 6 6 (gDih 3).2.1 i j h') 6 (by omega) (fun j s2 h2 ag2 hj J2 again2 => ?_) ⟨rfl, J⟩
    obtain ⟨rfl, J2⟩ := J2
    by_cases e2 : j = 6
    · subst e2
      refine xo_t (Int32.le_refl _) ?_
      rw [nI_s]
      exact again hlt _ _ ⟨rfl, FI_row J2⟩
    · have hlj : j < 6 := by omega
      refine xo_f (nI_ge hlj (by omega)) (xo_jn ?_)
      have V := dihV i hlt j hlj
      have key : ∀ v5 : Int32, v5 = (if (3 : Int32) ≤ nI i then nI i - 3 + 3 - xrem (nI j) 3 else nI i + xrem (nI j) 3) → xo (xg (xk h2 (xt h) = 18 ∧ xin (nI i) (xn h2 (xt h))) <| xnn (xr h2 (xt h) (nI i : Int32).toNatClampNeg) fun w7 => xg ((3 : Int32) ≠ 0) <| xjn (fun (v8 : Int32) (h9 : XH) => xjn (fun (v10 : Int32) (h11 : XH) => xjn (fun (v12 : Int32) (h13 : XH) => xg (xk h13 w7 = 12 ∧ xin (nI j) (xn h13 w7)) <| xlt (yi h13 w7 (nI j : Int32).toNatClampNeg ((xrem v5 3) + v12)) fun h14 => ag2 (nI j + 1) h14) fun (j89 : Int32 → XH → XP Nat) => if (v8 : Int32) = v10 then (j89 0 h11) else (j89 3 h11)) fun (j81 : Int32 → XH → XP Nat) => if (3 : Int32) ≤ nI j then (j81 0 h9) else (j81 1 h9)) fun (j71 : Int32 → XH → XP Nat) => if (3 : Int32) ≤ nI i then (j71 0 h2) else (j71 1 h2)) (TM h0 h D c u 6 (gDih 3).2.1) := fun v5 e5 => by
        rw [← e5] at V
        rw [lrow J2.2.1 (by omega) hlt]
        refine xo_g (by decide) (xo_jn ?_)
        have fin : ∀ v12 : Int32, xrem v5 3 + v12 = nI ((gDih 3).2.1 i j) → xo (xg (xk h2 (xt h + 1 + i) = 12 ∧ xin (nI j) (xn h2 (xt h + 1 + i))) <| xlt (yi h2 (xt h + 1 + i) (nI j : Int32).toNatClampNeg ((xrem v5 3) + v12)) fun h14 => ag2 (nI j + 1) h14) (TM h0 h D c u 6 (gDih 3).2.1) := fun v12 e12 => by
          rw [e12, lwr J2.2.1 hlt hlj (by omega), nI_s]
          exact again2 hlj _ _ ⟨rfl, FI_put J2 hlt hlj⟩
        by_cases c1 : (3 : Int32) ≤ nI i
        · rw [if_pos c1] at V ⊢
          by_cases c2 : (3 : Int32) ≤ nI j
          · rw [if_pos c2] at V
            refine xo_jn (xo_t c2 (xo_jn (xo_t rfl (fin 0 ?_))))
            rw [if_pos rfl] at V; exact V
          · rw [if_neg c2] at V
            refine xo_jn (xo_f c2 (xo_jn (xo_f (by decide) (fin 3 ?_))))
            rw [if_neg (by decide)] at V; exact V
        · rw [if_neg c1] at V ⊢
          by_cases c2 : (3 : Int32) ≤ nI j
          · rw [if_pos c2] at V
            refine xo_jn (xo_t c2 (xo_jn (xo_f (by decide) (fin 3 ?_))))
            rw [if_neg (by decide)] at V; exact V
          · rw [if_neg c2] at V
            refine xo_jn (xo_f c2 (xo_jn (xo_t rfl (fin 0 ?_))))
            rw [if_pos rfl] at V; exact V
      by_cases c1 : (3 : Int32) ≤ nI i
      · exact xo_t c1 (xo_g (by decide) (key _ (if_pos c1).symm))
      · exact xo_f c1 (xo_g (by decide) (key _ (if_neg c1).symm))
theorem lpro_o {A B na nb : Nat} {ta tb : Nat → Nat → Nat} (g : Gr D c u h0 h) (qa : lT h A na ta) (qb : lT h B nb tb) (a0 : 0 < na) (b0 : 0 < nb) (h8 : na * nb ≤ 8) (hA : A + na < xt h) (hB : B + nb < xt h) : xo (FL_product E A B h) (TM h0 h D c u (na * nb) (fun x y => ta (x / nb) (y / nb) * nb + tb (x % nb) (y % nb))) := by
  have na8 : na ≤ 8 := Nat.le_trans (Nat.le_mul_of_pos_right na b0) h8
  have nb8 : nb ≤ 8 := Nat.le_trans (Nat.le_mul_of_pos_left nb a0) h8
  unfold FL_product
  refine xo_g qb.1.1.1 (xo_lt (xo_g qa.1.1.1 (xo_g qa.1.1.1 ?_)))
  rw [qa.1.1.2, qb.1.1.2, ofNat_nI, ofNat_nI, nI_m]
  generalize eN : na * nb = N at *
  refine xo_g ⟨⟨nI_0le' (by omega), nI_0le' (by omega)⟩, by rw [xz_nI (by omega)]; omega, by rw [xz_nI (by omega)]; omega⟩ ?_
  rw [xz_nI (by omega)]
  refine xo_mg ?_
  have t0 := g.t
  refine xlp_inv (Po := fun m => xo m _) (fun i s h' => s = nI i ∧ (∀ a, a < xt h → smC a h h') ∧ FI h0 D (c + 1 + N) (u + N + N * N) (xt h) N N (fun x y => ta (x / nb) (y / nb) * nb + tb (x % nb) (y % nb)) i 0 h') N (by omega) (fun i s h' ag hi J again => ?_) ⟨rfl, fun a ha => ygr_lo h N N N a ha, FI_0 g N N _⟩
  obtain ⟨rfl, Js, J⟩ := J
  refine xo_g J.2.1.1.1 ?_
  rw [J.2.1.1.2, ofNat_nI]
  by_cases e : i = N
  · subst e
    exact xo_t (Int32.le_refl _) (xo_v (TM_of rfl J))
  · have hlt : i < N := by omega
    refine xo_f (nI_ge hlt (by omega)) ?_
    refine xlp_inv (Po := fun m => xo m _) (fun j s h' => s = nI j ∧ (∀ a, a < xt h → smC a h h') ∧ FI h0 D (c + 1 + N) (u + N + N * N) (xt h) N N (fun x y => ta (x / nb) (y / nb) * nb + tb (x % nb) (y % nb)) i j h') N (by omega) (fun j s2 h2 ag2 hj J2 again2 => ?_) ⟨rfl, Js, J⟩
    obtain ⟨rfl, Js2, J2⟩ := J2
    refine xo_g J2.2.1.1.1 ?_
    by_cases e2 : j = N
    · subst e2
      refine xo_t (by rw [J2.2.1.1.2]; exact Int32.le_refl _) ?_
      rw [nI_s]
      exact again hlt _ _ ⟨rfl, Js2, FI_row J2⟩
    · have hlj : j < N := by omega
      have qa2 : lT h2 A na ta := lV_sm qa (fun a a1 a2 => Js2 a (by omega))
      have qb2 : lT h2 B nb tb := lV_sm qb (fun a a1 a2 => Js2 a (by omega))
      have nz : nI nb ≠ 0 := by rw [Ne, nI_eq0 (by omega)]; omega
      have i1 : i / nb < na := (Nat.div_lt_iff_lt_mul b0).mpr (by omega)
      have j1 : j / nb < na := (Nat.div_lt_iff_lt_mul b0).mpr (by omega)
      have i2 : i % nb < nb := Nat.mod_lt _ b0
      have j2 : j % nb < nb := Nat.mod_lt _ b0
      refine xo_f (by rw [J2.2.1.1.2]; exact nI_ge hlj (by omega)) ?_
      rw [div_nI (by omega) b0 (by omega), div_nI (by omega) b0 (by omega), rem_nI (by omega) b0 (by omega), rem_nI (by omega) b0 (by omega), nI_s]
      rw [lrow J2.2.1 (by omega) hlt]
      refine xo_g nz ?_
      rw [lrow qa2.1 (by omega) i1]
      refine xo_g nz (xo_g (lS_c qa2.1 i1 j1 (by omega)) (xo_g nz ?_))
      rw [lrow qb2.1 (by omega) i2]
      refine xo_g nz (xo_g (lS_c qb2.1 i2 j2 (by omega)) ?_)
      rw [lwr J2.2.1 hlt hlj (by omega), lV_v qa2 i1 j1 (by omega), lV_v qb2 i2 j2 (by omega), nI_m, nI_a]
      refine again2 hlj _ _ ⟨rfl, fun a ha => smC_t (Js2 a ha) (smC_yi (by omega)), FI_put (t := fun x y => ta (x / nb) (y / nb) * nb + tb (x % nb) (y % nb)) J2 hlt hlj⟩
/-- the quaternions' units, as the law writes them: i rows -/
def unL (a b : Nat) : Nat := (([[0, 1, 2, 3], [1, 4, 3, 6], [2, 7, 4, 1], [3, 2, 5, 4]] : List (List Nat)).getD a []).getD b 0
def UR (h0 : XH) (D : Nat → Prop) (c u U i : Nat) (h : XH) : Prop := (Gr D (c + 1 + i) (u + 4 + i * 4) h0 h ∧ xt h0 ≤ U ∧ xt h = U + 1 + i) ∧ (xk h U = 18 ∧ xn h U = 4) ∧ ∀ a, a < i → (xr h U a = some (U + 1 + a) ∧ xk h (U + 1 + a) = 12 ∧ xn h (U + 1 + a) = 4) ∧ ∀ b, b < 4 → xi h (U + 1 + a) b = nI (unL a b)
theorem row4 {α : Type} {U i : Nat} {I v0 v1 v2 v3 : Int32} {K : XH → XP α} {Q : α → XH → Prop} (q : UR h0 D c u U i h) (hi : i < 4) (eI : I = nI i) (e0 : v0 = nI (unL i 0)) (e1 : v1 = nI (unL i 1)) (e2 : v2 = nI (unL i 2)) (e3 : v3 = nI (unL i 3)) (hK : ∀ h', UR h0 D c u U (i + 1) h' → xo (K h') Q) :
    xo (xg ((0 : Int32) ≤ 4 ∧ (4 : Int32).toNatClampNeg ≤ 60000000) <| xal h 12 (4 : Int32).toNatClampNeg fun w3 h4 => xg (xk h4 w3 = 12 ∧ xin 0 (xn h4 w3)) <| xlt (yi h4 w3 (0 : Int32).toNatClampNeg v0) fun h5 => xg (xk h5 w3 = 12 ∧ xin 1 (xn h5 w3)) <| xlt (yi h5 w3 (1 : Int32).toNatClampNeg v1) fun h6 => xg (xk h6 w3 = 12 ∧ xin 2 (xn h6 w3)) <| xlt (yi h6 w3 (2 : Int32).toNatClampNeg v2) fun h7 => xg (xk h7 w3 = 12 ∧ xin 3 (xn h7 w3)) <| xlt (yi h7 w3 (3 : Int32).toNatClampNeg v3) fun h8 => xg (xk h8 U = 18 ∧ xk h8 w3 = 12 ∧ xin I (xn h8 U)) <| xlt (yr h8 U I.toNatClampNeg (some w3)) K) Q := by
  subst eI; subst e0; subst e1; subst e2; subst e3
  obtain ⟨⟨q1, q2, q3⟩, ⟨q4, q5⟩, q6⟩ := q
  refine xo_g (by decide) (xo_al (fun h4 e4 => ?_))
  have kw : xk h4 (xt h) = 12 := by rw [e4, xk_ya, if_pos rfl]
  have nw : xn h4 (xt h) = 4 := by rw [e4, xn_ya, if_pos rfl]; rfl
  have nU : ¬ U = xt h := by omega
  have kU : xk h4 U = 18 := by rw [e4, xk_ya, if_neg nU]; exact q4
  have nnU : xn h4 U = 4 := by rw [e4, xn_ya, if_neg nU]; exact q5
  refine xo_g ⟨kw, by rw [nw]; decide⟩ (xo_wi (fun h5 e5 => xo_g ⟨by rw [e5]; exact kw, by rw [e5, xn_yi, nw]; decide⟩ (xo_wi (fun h6 e6 => xo_g ⟨by rw [e6, e5]; exact kw, by rw [e6, xn_yi, e5, xn_yi, nw]; decide⟩ (xo_wi (fun h7 e7 => xo_g ⟨by rw [e7, e6, e5]; exact kw, by rw [e7, xn_yi, e6, xn_yi, e5, xn_yi, nw]; decide⟩ (xo_wi (fun h8 e8 => ?_))))))))
  have k8 : ∀ a, xk h8 a = xk h4 a := fun a => by rw [e8, e7, e6, e5]; rfl
  have n8 : ∀ a, xn h8 a = xn h4 a := fun a => by rw [e8, e7, e6, e5]; rfl
  have r8 : ∀ a j, xr h8 a j = xr h4 a j := fun a j => by rw [e8, e7, e6, e5]; rfl
  have t8 : xt h8 = xt h + 1 := by rw [e8, e7, e6, e5, e4]; rfl
  have i8 : ∀ b, b < 4 → xi h8 (xt h) b = nI (unL i b) := fun b hb => by
    rw [e8, xi_yi, e7, xi_yi, e6, xi_yi, e5, xi_yi]
    have hb4 : b = 0 ∨ b = 1 ∨ b = 2 ∨ b = 3 := by omega
    rcases hb4 with rfl | rfl | rfl | rfl <;> simp [show (0 : Int32).toNatClampNeg = 0 from rfl, show (1 : Int32).toNatClampNeg = 1 from rfl, show (2 : Int32).toNatClampNeg = 2 from rfl, show (3 : Int32).toNatClampNeg = 3 from rfl]
  have s8 : ∀ a, ¬ a = xt h → ∀ j, xi h8 a j = xi h a j := fun a ha j => by
    rw [e8, xi_yi2 _ _ (Or.inl ha), e7, xi_yi2 _ _ (Or.inl ha), e6, xi_yi2 _ _ (Or.inl ha), e5, xi_yi2 _ _ (Or.inl ha), e4, xi_ya, if_neg ha]
  have lt4 : xt h < xt h4 := by rw [e4]; exact Nat.lt_succ_self _
  have t0 := q1.t
  have g4 := Gr_ya q1 12 (4 : Int32).toNatClampNeg
  rw [← e4] at g4
  have g8 : Gr D (c + 1 + i + 1) (u + 4 + i * 4 + 4) h0 h8 := by
    have a5 := Gr_yi (a := xt h) (k := (0 : Int32).toNatClampNeg) (x := nI (unL i 0)) g4 lt4 (fun z => by omega)
    rw [← e5] at a5
    have a6 := Gr_yi (a := xt h) (k := (1 : Int32).toNatClampNeg) (x := nI (unL i 1)) a5 (by rw [e5]; exact lt4) (fun z => by omega)
    rw [← e6] at a6
    have a7 := Gr_yi (a := xt h) (k := (2 : Int32).toNatClampNeg) (x := nI (unL i 2)) a6 (by rw [e6, e5]; exact lt4) (fun z => by omega)
    rw [← e7] at a7
    have a8 := Gr_yi (a := xt h) (k := (3 : Int32).toNatClampNeg) (x := nI (unL i 3)) a7 (by rw [e7, e6, e5]; exact lt4) (fun z => by omega)
    rw [← e8] at a8
    exact a8
  refine xo_g ⟨by rw [k8]; exact kU, by rw [k8]; exact kw, by rw [n8, nnU]; exact xin_nI hi (by omega)⟩ (xo_lt (hK _ ⟨⟨?_, q2, by rw [xt_yr, t8, q3]; omega⟩, ⟨by rw [xk_yr, k8]; exact kU, by rw [xn_yr, n8]; exact nnU⟩, fun a ha => ?_⟩))
  · exact Gr_more (Gr_yr g8 (fun z => by omega)) (by omega) (by omega)
  · rw [xz_nI (by omega)]
    by_cases ea : a = i
    · subst ea
      rw [← q3]
      refine ⟨⟨by rw [xr_yr, if_pos ⟨rfl, rfl⟩], by rw [xk_yr, k8]; exact kw, by rw [xn_yr, n8]; exact nw⟩, fun b hb => by rw [xi_yr]; exact i8 b hb⟩
    · have ha2 : a < i := by omega
      have nx : ¬ U + 1 + a = xt h := by omega
      obtain ⟨⟨p1, p2, p3⟩, p4⟩ := q6 a ha2
      refine ⟨⟨by rw [xr_yr, if_neg (fun z => ea z.2), r8, e4, xr_ya, if_neg nU]; exact p1, by rw [xk_yr, k8, e4, xk_ya, if_neg nx]; exact p2, by rw [xn_yr, n8, e4, xn_ya, if_neg nx]; exact p3⟩, fun b hb => by rw [xi_yr, s8 _ nx]; exact p4 b hb⟩
theorem quaV : ∀ a, a < 8 → ∀ b, b < 8 → nI (unL (a % 4) (b % 4)) ^^^ ((nI a ^^^ nI b) &&& 4) = nI (gQua.2.1 a b) := by decide +kernel
theorem lqua_o (g : Gr D c u h0 h) : xo (FL_quaternion E h) (fun G h' => xt h ≤ G ∧ xt h' = G + 9 ∧ lT h' G 8 gQua.2.1 ∧ Gr D (c + 14) (u + 92) h0 h') := by
  unfold FL_quaternion
  refine xo_al (fun h2 e2 => ?_)
  have g2 := Gr_ya g 18 4
  rw [← e2] at g2
  have t0 := g.t
  have U0 : UR h0 D c u (xt h) 0 h2 := ⟨⟨Gr_more g2 (by omega) (by show u + 4 ≤ _; omega), t0, by rw [e2]; rfl⟩, ⟨by rw [e2, xk_ya, if_pos rfl], by rw [e2, xn_ya, if_pos rfl]⟩, fun a ha => absurd ha (Nat.not_lt_zero _)⟩
  refine row4 U0 (by omega) rfl rfl rfl rfl rfl (fun h9 U1 => row4 U1 (by omega) rfl rfl rfl rfl rfl (fun h16 U2 => row4 U2 (by omega) rfl rfl rfl rfl rfl (fun h23 U3 => row4 U3 (by omega) rfl rfl rfl rfl rfl (fun h30 U4 => ?_))))
  clear U0 U1 U2 U3
  obtain ⟨⟨u1, u2, u3⟩, ⟨u4, u5⟩, u6⟩ := U4
  have uv : lV h30 (xt h) 4 4 unL := ⟨⟨⟨u4, u5⟩, fun a ha => (u6 a ha).1⟩, fun a b ha hb => (u6 a ha).2 b hb⟩
  refine xo_g (by decide) ?_
  rw [show (8 : Int32).toNatClampNeg = 8 from rfl]
  refine xo_mg ?_
  refine xlp_inv (Po := fun m => xo m _) (fun i s h' => s = nI i ∧ (∀ a, a < xt h30 → smC a h30 h') ∧ FI h0 D (c + 1 + 4 + 1 + 8) (u + 4 + 4 * 4 + 8 + 8 * 8) (xt h30) 8 8 gQua.2.1 i 0 h') 8 (by omega) (fun i s h' ag hi J again => ?_) ⟨rfl, fun a ha => ygr_lo h30 8 8 8 a ha, FI_0 u1 8 8 _⟩
  obtain ⟨rfl, Js, J⟩ := J
  by_cases e : i = 8
  · subst e
    exact xo_t (by decide) (xo_v ⟨by omega, by have := J.1.2.2; omega, FI_end J, Gr_more J.1.1 (by omega) (by omega)⟩)
  · have hlt : i < 8 := by omega
    refine xo_f (show ¬ (8 : Int32) ≤ nI i by rw [li8, nI_leP (by omega) (by omega)]; omega) ?_
    refine xlp_inv (Po := fun m => xo m _) (fun j s h' => s = nI j ∧ (∀ a, a < xt h30 → smC a h30 h') ∧ FI h0 D (c + 1 + 4 + 1 + 8) (u + 4 + 4 * 4 + 8 + 8 * 8) (xt h30) 8 8 gQua.2.1 i j h') 8 (by omega) (fun j s2 h2 ag2 hj J2 again2 => ?_) ⟨rfl, Js, J⟩
    obtain ⟨rfl, Js2, J2⟩ := J2
    by_cases e2 : j = 8
    · subst e2
      refine xo_t (by decide) ?_
      rw [nI_s]
      exact again hlt _ _ ⟨rfl, Js2, FI_row J2⟩
    · have hlj : j < 8 := by omega
      have qu : lV h2 (xt h) 4 4 unL := lV_sm uv (fun a a1 a2 => Js2 a (by omega))
      have i2 : i % 4 < 4 := Nat.mod_lt _ (by omega)
      have j2 : j % 4 < 4 := Nat.mod_lt _ (by omega)
      refine xo_f (show ¬ (8 : Int32) ≤ nI j by rw [li8, nI_leP (by omega) (by omega)]; omega) ?_
      have r4 : ∀ x, x < 8 → xrem (nI x) 4 = nI (x % 4) := fun x hx => rem_nI (y := 4) (by omega) (by omega) (by omega)
      rw [lrow J2.2.1 (by omega) hlt, r4 i hlt, r4 j hlj, nI_s]
      refine xo_g (by decide) ?_
      rw [lrow qu.1 (by omega) i2]
      refine xo_g (by decide) (xo_g (lS_c qu.1 i2 j2 (by omega)) ?_)
      rw [lwr J2.2.1 hlt hlj (by omega), lV_v qu i2 j2 (by omega), quaV i hlt j hlj]
      exact again2 hlj _ _ ⟨rfl, fun a ha => smC_t (Js2 a ha) (smC_yi (by omega)), FI_put J2 hlt hlj⟩
end TAB
