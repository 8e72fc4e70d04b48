/-! The law tells its text to the class. -/
set_option linter.unusedVariables false
/-- m letters of f in a word, from 4 j on -/
def pkB (f : Nat → Nat) (j : Nat) : Nat → Nat
  | 0 => 0
  | m + 1 => pkB f j m * 256 + f (4 * j + m)
section TEL
variable {E : XG} {h h' h0 : XH} {X s V : Nat} {l : List Nat}
theorem orN {x c : Nat} (hx : x < 2 ^ 23) (hc : c < 256) : nI (x * 256) ||| nI c = nI (x * 256 + c) := by
  refine Int32.toBitVec_inj.mp (BitVec.eq_of_toNat_eq ?_)
  show ((nI (x * 256)).toBitVec ||| (nI c).toBitVec).toNat = (nI (x * 256 + c)).toBitVec.toNat
  rw [BitVec.toNat_or, pk_tn (by omega), pk_tn (by omega), pk_tn (by omega)]
  have := Nat.two_pow_add_eq_or_of_lt (i := 8) (b := c) (by omega) x
  rw [show 2 ^ 8 * x = x * 256 by omega] at this
  exact this.symm
theorem shor {x c : Nat} (hx : x < 2 ^ 23) (hc : c < 256) : (nI x <<< ((8 : Int32) &&& 31)) ||| nI c = nI (x * 256 + c) := by
  rw [pk_shlN _ 8 (by decide) (by omega)]
  exact orN hx hc
theorem pkB_lt {f : Nat → Nat} (hf : ∀ i, f i < 128) (j : Nat) : ∀ m, pkB f j m < 128 * 256 ^ (m - 1) ∨ m = 0
  | 0 => Or.inr rfl
  | 1 => Or.inl (by show 0 * 256 + f (4 * j + 0) < 128 * 256 ^ 0; have := hf (4 * j + 0); omega)
  | m + 2 => by
    left
    have := pkB_lt hf j (m + 1)
    have h1 := hf (4 * j + (m + 1))
    show pkB f j (m + 1) * 256 + f (4 * j + (m + 1)) < 128 * 256 ^ (m + 1)
    rcases this with q | q
    · rw [Nat.pow_succ]
      have q : pkB f j (m + 1) < 128 * 256 ^ m := q
      omega
    · cases q
theorem by_pk {f : Nat → Nat} (hf : ∀ i, f i < 128) (j r : Nat) (hr : r < 4) : byN (nI (pkB f j 4)) r = f (4 * j + r) := by
  have f0 := hf (4 * j + 0)
  have f1 := hf (4 * j + 1)
  have f2 := hf (4 * j + 2)
  have f3 := hf (4 * j + 3)
  have e : pkB f j 4 = (((0 * 256 + f (4 * j + 0)) * 256 + f (4 * j + 1)) * 256 + f (4 * j + 2)) * 256 + f (4 * j + 3) := rfl
  unfold byN
  rw [e]
  have h31 : (((0 * 256 + f (4 * j + 0)) * 256 + f (4 * j + 1)) * 256 + f (4 * j + 2)) * 256 + f (4 * j + 3) < 2 ^ 31 := by omega
  have hr4 : r = 0 ∨ r = 1 ∨ r = 2 ∨ r = 3 := by omega
  rcases hr4 with rfl | rfl | rfl | rfl
  · rw [pk_shrN h31 _ 24 (by decide), pk_andN (by omega) 8 (by decide), xz_nI (by omega)]
    omega
  · rw [pk_shrN h31 _ 16 (by decide), pk_andN (by omega) 8 (by decide), xz_nI (by omega)]
    omega
  · rw [pk_shrN h31 _ 8 (by decide), pk_andN (by omega) 8 (by decide), xz_nI (by omega)]
    omega
  · rw [pk_shrN h31 _ 0 (by decide), pk_andN (by omega) 8 (by decide), xz_nI (by omega)]
    omega
/-- the letters, spaces behind them -/
def flL (l : List Nat) (i : Nat) : Nat := if i < l.length then l.getD i 0 else 32
theorem flL_lt (hl : ∀ i, i < l.length → l.getD i 0 < 128) (i : Nat) : flL l i < 128 := by
  unfold flL
  split
  · exact hl i ‹_›
  · omega
/-- the class, its buffer holding n of the letters -/
def FBuf (h : XH) (X : Nat) (l : List Nat) (n : Nat) : Prop := ∃ w s f Z, XI h X w s f Z ∧ WZ Z ∧ zfl Z = n ∧ ∀ i, i < n → zbf Z i = flL l i
theorem feeds_o (x : FBuf h X l 0) (tX : X + 223 ≤ xt h) (q : SR h s V l) (hl : l.length ≤ 900) (hs : s < X ∨ X + 223 ≤ s) (hV : V < X ∨ X + 223 ≤ V) (ts : s < xt h) (tV : V < xt h) : xo (FL_feeds E X s h) (fun v h' => v = 1 ∧ (∃ n, l.length ≤ n ∧ FBuf h' X l n) ∧ SR h' s V l ∧ Gr (rXa X) 45 225 h h') := by
  have l128 : ∀ i, i < l.length → l.getD i 0 < 128 := fun i hi => (q.2.2 i hi).2
  have f128 := flL_lt l128
  have nX : ∀ a, (a < X ∨ X + 223 ≤ a) → ¬ rXa X a := fun a h1 h2 => by unfold rXa at h2; omega
  unfold FL_feeds
  refine xlp_inv (Po := fun m => xo m _) (fun j st h' => st = nI (20 * j) ∧ FBuf h' X l (20 * j) ∧ SR h' s V l ∧ Gr (rXa X) j (5 * j) h h') ((l.length + 19) / 20) (by omega) (fun j st h1 ag hj J again => ?_) ⟨rfl, x, q, Gr_refl _ h⟩
  obtain ⟨rfl, x1, q1, g1⟩ := J
  have t1 := g1.t
  refine xo_g q1.1.1 (xo_eb (len_T q1 hl) ?_)
  by_cases e : j = (l.length + 19) / 20
  · refine xo_t (by rw [nI_leP (by omega) (by omega)]; omega) (xo_g (Or.inr rfl) (xo_v ⟨rfl, ⟨_, by omega, x1⟩, q1, Gr_more g1 (by omega) (by omega)⟩))
  · have hlt : j < (l.length + 19) / 20 := by omega
    refine xo_f (by rw [nI_leP (by omega) (by omega)]; omega) (xo_g (by decide) ?_)
    rw [show (5 : Int32).toNatClampNeg = 5 from rfl]
    refine xo_al (fun h5 e5 => ?_)
    have g5 := Gr_ya (Gr_refl nD h1) 12 5
    rw [← e5] at g5
    have g5 : Gr nD 1 5 h1 h5 := g5
    obtain ⟨W, eW⟩ : ∃ W, W = xt h1 := ⟨_, rfl⟩
    have kW : xk h5 W = 12 ∧ xn h5 W = 5 ∧ ∀ i, xi h5 W i = 0 := ⟨by rw [e5, eW, xk_ya, if_pos rfl], by rw [e5, eW, xn_ya, if_pos rfl], fun i => by rw [e5, eW, xi_ya, if_pos rfl]⟩
    have t5 : xt h5 = W + 1 := by rw [e5, eW]; rfl
    rw [← eW]
    have fj : ∀ i, flL l (20 * j + i) < 128 := fun i => f128 _
    refine xlp_inv (Po := fun m => xo m _) (fun k st h' => st = nI k ∧ (Gr nD 1 5 h1 h' ∧ xt h' = W + 1) ∧ (xk h' W = 12 ∧ xn h' W = 5) ∧ ∀ i, i < 5 → xi h' W i = nI (pkB (fun i => flL l (20 * j + i)) i (if 4 * (i + 1) ≤ k then 4 else k - 4 * i))) 20 (by omega) (fun k st h6 ag2 hk J again2 => ?_) ⟨rfl, ⟨g5, t5⟩, ⟨kW.1, kW.2.1⟩, fun i hi => by rw [kW.2.2, if_neg (by omega), Nat.zero_sub]; rfl⟩
    obtain ⟨rfl, ⟨g6, t6⟩, ⟨k6, n6⟩, v6⟩ := J
    have q6 : SR h6 s V l := SR_sm q1 (g6.s (by omega) (fun z => z)) (g6.s (by omega) (fun z => z))
    by_cases ek : k = 20
    · subst ek
      have w6 : ∀ i, i < 5 → xi h6 W i = nI (pkB (fun i => flL l (20 * j + i)) i 4) := fun i hi => by rw [v6 i hi, if_pos (by omega)]
      obtain ⟨w9, s9, f9, Z, x9, z9, e9, b9⟩ := x1
      have tX1 : X + 223 ≤ xt h1 := Nat.le_trans tX t1
      have x6 := XI_gr x9 g6 tX1 (fun _ _ _ z => z)
      have gd : ∀ i, i < 5 → xk h6 W = 12 ∧ xin (nI i) (xn h6 W) := fun i hi => ⟨k6, by rw [n6]; exact xin_nI hi (by omega)⟩
      refine xo_t (by decide) (xo_g (gd 0 (by omega)) (xo_g (gd 1 (by omega)) (xo_g (gd 2 (by omega)) (xo_g (gd 3 (by omega)) (xo_g (gd 4 (by omega)) (xo_g x6.k ?_))))))
      obtain ⟨z10, c10⟩ := C_append (E := E) x6 z9 (by rw [e9]; omega) (xi h6 W (0 : Int32).toNatClampNeg) (xi h6 W (1 : Int32).toNatClampNeg) (xi h6 W (2 : Int32).toNatClampNeg) (xi h6 W (3 : Int32).toNatClampNeg) (xi h6 W (4 : Int32).toNatClampNeg)
      refine xo_b c10 (fun v7 h8 y => ?_)
      obtain ⟨rfl, i8, w10, s10, f10, x8⟩ := y
      refine xo_t (nI_0le' (by rw [e9]; omega)) ?_
      rw [show nI (20 * j) + 20 = nI (20 * (j + 1)) from by rw [show (20 : Int32) = nI 20 from rfl, nI_a]; rfl]
      refine again hlt _ _ ⟨rfl, ⟨w10, s10, f10, _, x8, z10, by show zfl Z + 20 = _; rw [e9]; omega, fun i hi => ?_⟩, SR_sm q6 (smC_iw i8 (nX s hs)) (smC_iw i8 (nX V hV)), ?_⟩
      · show bfE (zbf Z) (zfl Z) _ i = flL l i
        unfold bfE
        rw [e9]
        by_cases c1 : i < 20 * j
        · rw [if_pos c1]; exact b9 i c1
        · rw [if_neg c1]
          have hi20 : i - 20 * j < 20 := by omega
          have w5v : ∀ r, r < 5 → w5 (xi h6 W (0 : Int32).toNatClampNeg) (xi h6 W (1 : Int32).toNatClampNeg) (xi h6 W (2 : Int32).toNatClampNeg) (xi h6 W (3 : Int32).toNatClampNeg) (xi h6 W (4 : Int32).toNatClampNeg) r = nI (pkB (fun i => flL l (20 * j + i)) r 4) := fun r hr => by
            have r5 : r = 0 ∨ r = 1 ∨ r = 2 ∨ r = 3 ∨ r = 4 := by omega
            rcases r5 with rfl | rfl | rfl | rfl | rfl
            · exact w6 0 hr
            · exact w6 1 hr
            · exact w6 2 hr
            · exact w6 3 hr
            · exact w6 4 hr
          rw [w5v _ (by omega), by_pk fj _ _ (by omega)]
          show flL l (20 * j + (4 * ((i - 20 * j) / 4) + (i - 20 * j) % 4)) = _
          congr 1
          omega
      · have r1 := Gr_trans (D := rXa X) g1 g6 (fun _ z => z) (fun _ z _ => z.elim)
        exact Gr_more (Gr_iw r1 i8 (fun a z => ⟨by unfold rXa at z; omega, fun _ => z⟩)) (by omega) (by omega)
    · have hlk : k < 20 := by omega
      have hd : k / 4 < 5 := by omega
      refine xo_f (show ¬ (20 : Int32) ≤ nI k by rw [show (20 : Int32) = nI 20 from rfl, nI_leP (by omega) (by omega)]; omega) (xo_g (by decide) (xo_g (by decide) ?_))
      rw [show nI k / 4 = nI (k / 4) from div_nI (y := 4) (by omega) (by omega) (by omega), nI_a]
      have gd6 : xk h6 W = 12 ∧ xin (nI (k / 4)) (xn h6 W) := ⟨k6, by rw [n6]; exact xin_nI hd (by omega)⟩
      refine xo_g gd6 (xo_g q6.1.1 (xo_eb (len_T q6 hl) ?_))
      refine xo_jk1 (R := fun v h12 => v = nI (flL l (20 * j + k)) ∧ h12 = h6) (fun v11 h12 z => ?_) (fun j' K => ?_)
      · obtain ⟨rfl, rfl⟩ := z
        refine xo_g gd6 (xo_wat (by omega) (fun h13 e13 => ?_))
        subst e13
        rw [nI_s]
        refine again2 hlk _ _ ⟨rfl, ⟨Gr_yi g6 (by omega) (fun z => by omega), t6⟩, ⟨k6, n6⟩, fun i hi => ?_⟩
        by_cases ei : i = k / 4
        · subst ei
          have c1 : ¬ 4 * (k / 4 + 1) ≤ k := by omega
          have pl := pkB_lt (f := fun i => flL l (20 * j + i)) fj (k / 4) (k - 4 * (k / 4))
          have p23 : pkB (fun i => flL l (20 * j + i)) (k / 4) (k - 4 * (k / 4)) < 2 ^ 23 := by
            rcases pl with pl | pl
            · have km : k - 4 * (k / 4) = 1 ∨ k - 4 * (k / 4) = 2 ∨ k - 4 * (k / 4) = 3 ∨ k - 4 * (k / 4) = 0 := by omega
              rcases km with km | km | km | km <;> rw [km] at pl ⊢ <;> omega
            · rw [pl]
              show 0 < 2 ^ 23
              omega
          rw [xi_yi1, xz_nI (by omega), v6 (k / 4) hi, if_neg c1, shor p23 (by have := fj k; exact Nat.lt_trans (fj k) (by omega))]
          have e2 : (if 4 * (k / 4 + 1) ≤ k + 1 then 4 else k + 1 - 4 * (k / 4)) = k - 4 * (k / 4) + 1 := by
            split <;> omega
          rw [e2]
          show nI (_ * 256 + flL l (20 * j + k)) = nI (pkB (fun i => flL l (20 * j + i)) (k / 4) (k - 4 * (k / 4)) * 256 + flL l (20 * j + (4 * (k / 4) + (k - 4 * (k / 4)))))
          rw [show 4 * (k / 4) + (k - 4 * (k / 4)) = k by omega]
        · rw [xi_yi2 _ _ (Or.inr ei), v6 i hi]
          congr 2
          split <;> split <;> omega
      · by_cases c2 : l.length ≤ 20 * j + k
        · refine xo_t (by rw [nI_leP (by omega) (by omega)]; exact c2) (K _ _ ⟨?_, rfl⟩)
          unfold flL
          rw [if_neg (by omega)]
          rfl
        · refine xo_f (by rw [nI_leP (by omega) (by omega)]; exact c2) (xo_g q6.1.1 (xo_eb (chr_T q6 hl (by omega)) (K _ _ ⟨?_, rfl⟩)))
          unfold flL
          rw [if_pos (by omega)]
end TEL
