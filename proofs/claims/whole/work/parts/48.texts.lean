/-! Calls that change something: the form; texts written. -/
set_option linter.unusedVariables false
abbrev rXa (X a : Nat) : Prop := X ≤ a ∧ a < X + 223
abbrev rYa (Y a : Nat) : Prop := Y ≤ a ∧ a < Y + 25
def AGz (X Y : Nat) (cm : Nat → Nat) (h : XH) (Z : ZD) (FC FM : XH → XP Int32) : Prop := ∃ (r : Int32 ⊕ Nat) (c : Nat) (u : Int32) (Z' : ZD), WZ Z' ∧ xq (FC h) (fun r' h1 => r' = r ∧ iw (rXa X) h h1 ∧ ∃ w s f, XI h1 X w s f Z') ∧ (∀ h', YI h' Y Z → xo (FM h') (fun b h2 => b = u ∧ iw (rYa Y) h' h2 ∧ xi h2 Y 0 = nI c ∧ YI h2 Y Z')) ∧ ((∃ v, r = .inl v ∧ c = 0 ∧ v = u) ∨ ∃ e, r = .inr e ∧ e < 3 ∧ c = cm e ∧ 0 < c ∧ c < 100)
section AG
variable {E : XG} {h : XH} {X Y O w s f : Nat} {Z : ZD} {cm : Nat → Nat} {FC FM : XH → XP Int32}
theorem rXP_a {X a : Nat} (q : rXP X a) : rXa X a := by
  unfold rXP rPW at q
  unfold rXa
  omega
theorem AGz_x (j : JJ h X Y O Z) (a : AGx X Y cm h Z FC FM) : AGz X Y cm h Z FC FM := by
  obtain ⟨r, c, u, a1, a2, a3⟩ := a
  obtain ⟨z, -, -, ⟨w, s, f, x⟩, y⟩ := j
  obtain ⟨r', h1, e1, e2, e3⟩ := a1
  refine ⟨r, c, u, Z, z, ⟨r', h1, e1, e2, e3.wide (fun a q => rXP_a q), w, s, f, XI_iw x e3 (fun a q => Or.inr (Or.inr q))⟩, fun h' y => ?_, a3⟩
  refine xo_w (a2 h' y) (fun b h2 q => ?_)
  obtain ⟨q1, q2⟩ := q
  refine ⟨q1, (iw_yi (A := rYa Y) h' Y 0 (nI c) (by unfold rYa; omega)).trans q2 (fun _ q => q) (fun a q => by unfold rEq at q; unfold rYa; omega), ?_, YI_iw (y.t _) q2 (fun a q => by unfold rEq at q; omega)⟩
  rw [q2.i _ (rEqY Y), xi_yi1]
theorem AGz_v (u : Int32) (Z' : ZD) (z : WZ Z') (hC : xo (FC h) (fun v h1 => v = u ∧ iw (rXa X) h h1 ∧ ∃ w s f, XI h1 X w s f Z')) (hM : ∀ h', YI h' Y Z → xo (FM h') (fun b h2 => b = u ∧ iw (rYa Y) h' h2 ∧ xi h2 Y 0 = 0 ∧ YI h2 Y Z')) : AGz X Y cm h Z FC FM :=
  ⟨.inl u, 0, u, Z', z, xq_o hC (fun v h1 q => ⟨by rw [q.1], q.2⟩), hM, Or.inl ⟨u, rfl, rfl, rfl⟩⟩
/-- another text -/
def zst (Z : ZD) (l : List Nat) : ZD := (zld Z, zS Z, zT Z, (zun Z, zu Z), zk Z, (zfl Z, zbf Z), (zer Z, zea Z), (l.length, fun i => l.getD i 0))
theorem zst_wz {l : List Nat} (z : WZ Z) (h1 : l.length ≤ 71) (h2 : ∀ c ∈ l, c < 128) : WZ (zst Z l) := ⟨z.1, z.2.1, z.2.2.1, z.2.2.2.1, z.2.2.2.2.1, h1, fun i hi => h2 _ (gD_mem hi)⟩
theorem XI_txt {h' : XH} {l : List Nat} (x : XI h X w s f Z) (i : iw (fun a => a = X ∨ a = X + 222) h h') (hk : ∀ k, k ≠ 13 → xi h' X k = xi h X k) (h1 : xi h' X 13 = nI l.length) (h2 : ∀ i, i < l.length → xi h' (X + 222) i = nI (l.getD i 0)) : XI h' X w s f (zst Z l) := by
  have ws := x.ws
  obtain ⟨⟨x1, x2, x3, x4, x5, x6⟩, ⟨x7, x8⟩, ⟨x9, x10⟩, ⟨x11, x12, x13⟩, ⟨⟨x14, x15, x16⟩, x17⟩, x18, x19, x20⟩ := x
  refine ⟨⟨XL_iw x1 i, by rw [i.r]; exact x2, by rw [i.r]; exact x3, x4, WL_iw x5 i, fun g hg => ?_, fun m hm => ?_⟩, ⟨x7.iw i (fun a q => by omega), NC_iw x7.1.1 x8 i (fun a q1 q2 => by omega)⟩, ⟨?_, fun j hj => ?_⟩, ⟨?_, ?_, ?_⟩, ⟨⟨x14, ?_, ?_⟩, fun j hj => CR_iw (x17 j hj) i (by omega)⟩, fun j hj => ⟨?_, fun T hT => CR_iw ((x18 j hj).2 T hT) i (by omega)⟩, h1, h2⟩
  · rw [i.i _ (by omega)]; exact x6.1 g hg
  · rw [i.i _ (by omega)]; exact x6.2 m hm
  · rw [hk _ (by decide)]; exact x9
  · rw [i.i _ (by omega)]; exact x10 j hj
  · rw [hk _ (by decide)]; exact x11
  · rw [hk _ (by decide)]; exact x12
  · rw [hk _ (by decide)]; exact x13
  · rw [hk _ (by decide)]; exact x15
  · rw [hk _ (by decide)]; exact x16
  · rw [hk _ (by decide)]; exact (x18 j hj).1
theorem YI_txt {h' : XH} {l : List Nat} (y : YI h Y Z) (i : iw (fun a => a = Y ∨ a = Y + 24) h h') (hk : ∀ k, k ≠ 43 → xi h' Y k = xi h Y k) (h1 : xi h' Y 43 = nI l.length) (h2 : ∀ i, i < l.length → xi h' (Y + 24) i = nI (l.getD i 0)) : YI h' Y (zst Z l) := by
  obtain ⟨⟨⟨y0, ⟨c1, c2, c3⟩, y1, y1'⟩, y2⟩, ⟨y3, y4, y5⟩, ⟨y6, y7⟩, y8, ⟨y9, y10⟩, y11, y12⟩ := y
  refine ⟨⟨⟨y0, ⟨?_, ?_, ?_⟩, y1.iw i (fun a q => by omega), y1'.iw i (by omega)⟩, fun s k j hs hk hj => ?_⟩, ⟨?_, ?_, ?_⟩, ⟨?_, fun j hj => (y7 j hj).iw i (by omega)⟩, fun j hj => ⟨?_, fun T hT => ((y8 j hj).2 T hT).iw i (by omega)⟩, ⟨?_, fun j hj => ?_⟩, h1, h2⟩
  · rw [hk _ (by decide)]; exact c1
  · rw [hk _ (by decide)]; exact c2
  · rw [hk _ (by decide)]; exact c3
  · rw [i.i _ (by omega)]; exact y2 s k j hs hk hj
  · rw [hk _ (by decide)]; exact y3
  · rw [hk _ (by decide)]; exact y4
  · rw [hk _ (by decide)]; exact y5
  · rw [hk _ (by decide)]; exact y6
  · rw [i.i _ (by omega)]; exact (y8 j hj).1
  · rw [hk _ (by decide)]; exact y9
  · rw [i.i _ (by omega)]; exact y10 j hj
theorem byt : ∀ c, c < 128 → vp_nar .byte (Int8.toInt32 (Int32.toInt8 (nI c))) = nI c := by decide +kernel
theorem write_o {l : List Nat} (x : XI h X w s f (zst Z l)) (hl : l.length < 71) {c : Nat} (hc : c < 128) : xo (FX8_write E X (nI c) h) (fun _ h' => iw (rXa X) h h' ∧ XI h' X w s f (zst Z (l ++ [c]))) := by
  obtain ⟨r12, k12, n12⟩ := x.1.1.2.2.2.2.2.2
  have t1 : xi h X 13 = nI l.length := x.2.2.2.2.2.2.1
  have t2 : ∀ i, i < l.length → xi h (X + 222) i = nI (l.getD i 0) := x.2.2.2.2.2.2.2
  have hn : ¬ 71 ≤ l.length := by omega
  have e : FX8_write E X (nI c) h = xv () (yi (yi h (X + 222) l.length (nI c)) X 13 (nI (l.length + 1))) := by
    unfold FX8_write
    (try dsimp only); (rw [xg_t (x.k), xg_t (x.k), xnn_e (r12), xg_t (k12), xjn_d, t1, n12, ofNat_nI, if_neg (show ¬ nI 71 ≤ nI l.length by rw [nI_leP (by omega) (by omega)]; exact hn), xg_t (x.k), xnn_e (r12), xg_t (x.k), xg_t (show xk h (X + 222) = 11 ∧ xin (nI l.length) (xn h (X + 222)) from ⟨k12, by rw [n12]; exact xin_nI hl (by omega)⟩), xlt_d, byt c hc])
    rw [xz_nI (by omega)]
    (try dsimp only); (rw [xg_t (show xk (yi h (X + 222) l.length (nI c)) X = 9 from x.k), xg_t (show xk (yi h (X + 222) l.length (nI c)) X = 9 from x.k), xlt_d, xi_yi2 h (b := X) (j := 13) (a := X + 222) (k := l.length) (nI c) (Or.inl (by omega)), t1, nI_s])
  refine xo_e e ⟨?_, XI_txt (Z := zst Z l) (l := l ++ [c]) x ?_ (fun k hk => ?_) ?_ (fun i hi => ?_)⟩
  · exact (iw_yi (A := rXa X) _ _ _ _ (by unfold rXa; omega)).yi _ _ _ (by unfold rXa; omega)
  · exact (iw_yi (A := fun a => a = X ∨ a = X + 222) _ _ _ _ (Or.inr rfl)).yi _ _ _ (Or.inl rfl)
  · rw [xi_yi2 _ _ (Or.inr hk), xi_yi2 _ _ (Or.inl (by omega))]
  · rw [xi_yi1, List.length_append, List.length_singleton]
  · rw [List.length_append, List.length_singleton] at hi
    rw [xi_yi2 _ _ (Or.inl (by omega))]
    by_cases q : i = l.length
    · subst q; rw [xi_yi1, gD_r]
    · rw [xi_yi2 _ _ (Or.inr q), gD_l (by omega)]; exact t2 i (by omega)
theorem says_o {l : List Nat} (y : YI h Y (zst Z l)) (hl : l.length < 71) (c : Nat) : xo (FX9_says E Y (nI c) h) (fun _ h' => iw (rYa Y) h h' ∧ xi h' Y 0 = xi h Y 0 ∧ YI h' Y (zst Z (l ++ [c]))) := by
  have t1 : xi h Y 43 = nI l.length := y.2.2.2.2.2.1
  have t2 : ∀ i, i < l.length → xi h (Y + 24) i = nI (l.getD i 0) := y.2.2.2.2.2.2
  have yl := y.l
  have e : FX9_says E Y (nI c) h = xv () (yi (yi h (Y + 24) l.length (nI c)) Y 43 (nI (l.length + 1))) := by
    unfold FX9_says
    (try dsimp only); (rw [xg_t (yl.1), xnn_e (yl.r24), xg_t (yl.1), t1, xg_t (yl.g24 (show l.length < 100 by omega)), xlt_d])
    rw [xz_nI (by omega)]
    (try dsimp only); (rw [xg_t (show xk (yi h (Y + 24) l.length (nI c)) Y = 10 from yl.1), xg_t (show xk (yi h (Y + 24) l.length (nI c)) Y = 10 from yl.1), xlt_d, xi_yi2 h (b := Y) (j := 43) (a := Y + 24) (k := l.length) (nI c) (Or.inl (by omega)), t1, nI_s])
  refine xo_e e ⟨?_, ?_, YI_txt (Z := zst Z l) (l := l ++ [c]) y ?_ (fun k hk => ?_) ?_ (fun i hi => ?_)⟩
  · exact (iw_yi (A := rYa Y) _ _ _ _ (by unfold rYa; omega)).yi _ _ _ (by unfold rYa; omega)
  · rw [xi_yi2 _ _ (Or.inr (by decide)), xi_yi2 _ _ (Or.inl (by omega))]
  · exact (iw_yi (A := fun a => a = Y ∨ a = Y + 24) _ _ _ _ (Or.inr rfl)).yi _ _ _ (Or.inl rfl)
  · rw [xi_yi2 _ _ (Or.inr hk), xi_yi2 _ _ (Or.inl (by omega))]
  · rw [xi_yi1, List.length_append, List.length_singleton]
  · rw [List.length_append, List.length_singleton] at hi
    rw [xi_yi2 _ _ (Or.inl (by omega))]
    by_cases q : i = l.length
    · subst q; rw [xi_yi1, gD_r]
    · rw [xi_yi2 _ _ (Or.inr q), gD_l (by omega)]; exact t2 i (by omega)
theorem XI_t0 (x : XI h X w s f Z) : XI (yi h X 13 0) X w s f (zst Z []) := XI_txt x (iw_yi (A := fun a => a = X ∨ a = X + 222) _ _ _ _ (Or.inl rfl)) (fun k hk => xi_yi2 _ _ (Or.inr hk)) (xi_yi1 _ _ _ _) (fun i hi => absurd hi (Nat.not_lt_zero _))
theorem YI_t0 (y : YI h Y Z) : YI (yi h Y 43 0) Y (zst Z []) := YI_txt y (iw_yi (A := fun a => a = Y ∨ a = Y + 24) _ _ _ _ (Or.inl rfl)) (fun k hk => xi_yi2 _ _ (Or.inr hk)) (xi_yi1 _ _ _ _) (fun i hi => absurd hi (Nat.not_lt_zero _))
/-- a table as a text -/
def wtR (t : Nat → Nat → Nat) (a : Nat) (l : List Nat) : Nat → List Nat := fld (fun b l => l ++ [48 + t a b]) l
def wtA (a : Nat) (l : List Nat) : List Nat := if a = 0 then l else l ++ [47]
def wtT (n : Nat) (t : Nat → Nat → Nat) : Nat → List Nat := fld (fun a l => wtR t a (wtA a l) n) []
theorem wtR_len (t : Nat → Nat → Nat) (a : Nat) (l : List Nat) (i : Nat) : (wtR t a l i).length = l.length + i := by
  induction i with
  | zero => rfl
  | succ i ih => show (wtR t a l i ++ [_]).length = _; rw [List.length_append, ih, List.length_singleton]; omega
theorem wtA_len (a : Nat) (l : List Nat) : (wtA a l).length = l.length + if a = 0 then 0 else 1 := by
  unfold wtA
  split
  · rfl
  · rw [List.length_append]; rfl
theorem wtT_len (n : Nat) (t : Nat → Nat → Nat) (i : Nat) : (wtT n t i).length = n * i + (i - 1) := by
  induction i with
  | zero => rfl
  | succ i ih =>
    show (wtR t i (wtA i (wtT n t i)) n).length = _
    rw [wtR_len, wtA_len, ih, Nat.mul_succ]
    split <;> omega
theorem wtT_128 {n : Nat} {t : Nat → Nat → Nat} (ht : ∀ a b, a < n → b < n → t a b < 8) : ∀ i, i ≤ n → ∀ c ∈ wtT n t i, c < 128 := by
  intro i
  induction i with
  | zero => intro _ c hc; cases hc
  | succ i ih =>
    intro hi
    show ∀ c ∈ wtR t i (wtA i (wtT n t i)) n, c < 128
    have h1 : ∀ c ∈ wtA i (wtT n t i), c < 128 := fun c hc => by
      unfold wtA at hc
      split at hc
      · exact ih (by omega) c hc
      · rcases List.mem_append.mp hc with q | q
        · exact ih (by omega) c q
        · rw [List.mem_singleton.mp q]; decide
    have h2 : ∀ j, j ≤ n → ∀ c ∈ wtR t i (wtA i (wtT n t i)) j, c < 128 := by
      intro j
      induction j with
      | zero => exact fun _ => h1
      | succ j jh =>
        intro hj c hc
        rcases List.mem_append.mp (show c ∈ wtR t i (wtA i (wtT n t i)) j ++ [48 + t i j] from hc) with q | q
        · exact jh (by omega) c q
        · rw [List.mem_singleton.mp q]
          have := ht i j (by omega) (by omega)
          omega
    exact h2 n (Nat.le_refl _)
theorem a48 (b : Nat) : (48 : Int32) + nI b = nI (48 + b) := by rw [show (48 : Int32) = nI 48 from rfl, nI_a]
theorem n8i {n i : Nat} (hn : n ≤ 8) (hi : i ≤ 7) : n * i ≤ 56 := by
  have := Nat.mul_le_mul hn hi
  omega
theorem ag_writeTable (j : JJ h X Y O Z) (p : Int32) : AGz X Y (cmT [0, 1]) h Z (FX8_writeTable E X p) (FX9_writeTable E Y p) := by
  have jj := j
  obtain ⟨z, -, -, ⟨w, s, f, x⟩, y⟩ := j
  have bn := x.ci.1.1.1
  cases hl : zld Z
  · refine AGz_x jj (AG_x 0 1 0 ?_ (fun h' y => ?_) (by decide))
    · unfold FX8_writeTable
      rw [xg_t x.k, FX8_groupAt_0 x hl]
      rfl
    · unfold FX9_writeTable
      simp (disch := omega) only [↓xg, ↓reduceIte, ↓xjn_d, ↓xlt_d, eq_self, and_self, and_true, true_and, not_true, not_false_iff, ne_eq, true_or, or_true, or_false, false_or, nI_s, nI_leP, nI_eqP, y.l.1, ↓xb_eq (FX9_noGroup_0 y hl p), i1_0]
      try rfl
  · cases hp : inr p (sng (zS Z))
    · refine AGz_x jj (AG_x 1 2 0 ?_ (fun h' y => ?_) (by decide))
      · unfold FX8_writeTable
        rw [xg_t x.k, FX8_groupAt_1 x hl hp]
        rfl
      · unfold FX9_writeTable
        simp (disch := omega) only [↓xg, ↓reduceIte, ↓xjn_d, ↓xlt_d, eq_self, and_self, and_true, true_and, not_true, not_false_iff, ne_eq, true_or, or_true, or_false, false_or, nI_s, nI_leP, nI_eqP, y.l.1, ↓xb_eq (FX9_noGroup_1 y hl hp), i1_0]
        try rfl
    · obtain ⟨g, hk, rfl⟩ := inr_of (by omega) hp
      have G := x.ci.2.1.gt x.ci.1.1 hk
      have b := y.bg hk
      have n0 := G.2.1.2.1
      have lt := fun a b ha hb => (G.2.1.2.2.2 a b ha hb).2
      have hlen := wtT_len (sgn (zS Z) g) (sgt (zS Z) g)
      have h56 : ∀ i, i < sgn (zS Z) g → sgn (zS Z) g * i ≤ 56 := fun i hi => n8i b.2 (by omega)
      have hle : (wtT (sgn (zS Z) g) (sgt (zS Z) g) (sgn (zS Z) g)).length ≤ 71 := by
        rw [hlen]
        have := h56 (sgn (zS Z) g - 1) (by omega)
        have e := Nat.mul_succ (sgn (zS Z) g) (sgn (zS Z) g - 1)
        rw [show (sgn (zS Z) g - 1).succ = sgn (zS Z) g by omega] at e
        omega
      refine AGz_v (nI (wtT (sgn (zS Z) g) (sgt (zS Z) g) (sgn (zS Z) g)).length) (zst Z (wtT (sgn (zS Z) g) (sgt (zS Z) g) (sgn (zS Z) g))) (zst_wz z hle (wtT_128 (fun a b ha hb => by have := lt a b ha hb; omega) _ (Nat.le_refl _))) ?_ (fun h' y => ?_)
      · unfold FX8_writeTable
        refine xo_g x.k (xo_eb (FX8_groupAt_v x hl hk) (xo_g x.k (xo_lt ?_)))
        refine xlp_inv (Po := fun m => xo m _) (fun i s' h' => s' = nI i ∧ iw (rXa X) h h' ∧ XI h' X w s f (zst Z (wtT (sgn (zS Z) g) (sgt (zS Z) g) i))) (sgn (zS Z) g) (by omega) (fun i s' h1 ag hi I again => ?_) ⟨rfl, iw_yi _ _ _ _ (by unfold rXa; omega), XI_t0 x⟩
        obtain ⟨rfl, i1, x1⟩ := I
        have G1 := x1.ci.2.1.gt x1.ci.1.1 hk
        refine xo_g G1.1.1 ?_
        rw [show xi h1 (w + 14 + 3 * g) 3 = nI (sgn (zS Z) g) from G1.2.1.1]
        by_cases e : i = sgn (zS Z) g
        · subst e
          refine xo_t (Int32.le_refl _) (xo_g x1.k (xo_v ⟨x1.2.2.2.2.2.2.1, i1, w, s, f, x1⟩))
        · have hlt : i < sgn (zS Z) g := by omega
          have h1' := hlen i
          have h2' := h56 i hlt
          refine xo_f (nI_ge hlt (by omega)) (xo_jn ?_)
          have inner : ∀ h2, iw (rXa X) h h2 → XI h2 X w s f (zst Z (wtA i (wtT (sgn (zS Z) g) (sgt (zS Z) g) i))) → xo (xlp (fun again34 (s34 : Int32) h6 => xg (xk h6 (w + 14 + 3 * g) = 3) <| if ((xi h6 (w + 14 + 3 * g) 3) : Int32) ≤ s34 then (ag (nI i + 1) h6) else (xg (xk h6 (w + 14 + 3 * g) = 3) <| xb (FX2_product E (w + 14 + 3 * g) (nI i) s34 h6) fun v7 h8 => xg (xk h8 X = 9) <| xb (FX8_write E X (48 + v7) h8) fun _ h9 => again34 (s34 + 1) h9)) xfu 0 h2) (fun v h1 => v = nI (wtT (sgn (zS Z) g) (sgt (zS Z) g) (sgn (zS Z) g)).length ∧ iw (rXa X) h h1 ∧ ∃ w s f, XI h1 X w s f (zst Z (wtT (sgn (zS Z) g) (sgt (zS Z) g) (sgn (zS Z) g)))) := fun h2 i2 x2 => by
            refine xlp_inv (Po := fun m => xo m _) (fun k s' h' => s' = nI k ∧ iw (rXa X) h h' ∧ XI h' X w s f (zst Z (wtR (sgt (zS Z) g) i (wtA i (wtT (sgn (zS Z) g) (sgt (zS Z) g) i)) k))) (sgn (zS Z) g) (by omega) (fun k s' h3 ag' hk3 I again' => ?_) ⟨rfl, i2, x2⟩
            obtain ⟨rfl, i3, x3⟩ := I
            have G3 := x3.ci.2.1.gt x3.ci.1.1 hk
            refine xo_g G3.1.1 ?_
            rw [show xi h3 (w + 14 + 3 * g) 3 = nI (sgn (zS Z) g) from G3.2.1.1]
            by_cases e : k = sgn (zS Z) g
            · subst e
              refine xo_t (Int32.le_refl _) ?_
              rw [nI_s]
              exact again hlt _ _ ⟨rfl, i3, x3⟩
            · have hlt2 : k < sgn (zS Z) g := by omega
              have q := lt i k hlt hlt2
              refine xo_f (nI_ge hlt2 (by omega)) (xo_g G3.1.1 (xo_eb (FX2_product_v G3.1 G3.2.1 hlt hlt2) (xo_g x3.k ?_)))
              rw [a48]
              have hA := wtA_len i (wtT (sgn (zS Z) g) (sgt (zS Z) g) i)
              have hlR := wtR_len (sgt (zS Z) g) i (wtA i (wtT (sgn (zS Z) g) (sgt (zS Z) g) i)) k
              refine xo_b (write_o x3 (by rw [hlR, hA, h1']; split <;> omega) (show 48 + sgt (zS Z) g i k < 128 by omega)) (fun _ h4 q4 => ?_)
              rw [nI_s]
              exact again' hlt2 _ _ ⟨rfl, i3.trans q4.1 (fun _ q => q) (fun _ q => q), q4.2⟩
          by_cases e0 : i = 0
          · refine xo_t (by rw [e0]; exact Int32.le_refl _) (inner h1 i1 ?_)
            unfold wtA
            rw [if_pos e0]
            exact x1
          · refine xo_f (by rw [← nI_0, nI_leP (by omega) (by omega)]; omega) (xo_g x1.k (xo_b (write_o (c := 47) x1 (by omega) (by omega)) (fun _ h4 q4 => ?_)))
            refine inner h4 (i1.trans q4.1 (fun _ q => q) (fun _ q => q)) ?_
            unfold wtA
            rw [if_neg e0]
            exact q4.2
      · have y0 := y.t 0
        unfold FX9_writeTable
        refine xo_g y.l.1 (xo_eb (FX9_noGroup_v y hl hk) (xo_t rfl (xo_g y0.l.1 (xo_lt ?_))))
        refine xlp_inv (Po := fun m => xo m _) (fun i s' h2 => s' = nI i ∧ iw (rYa Y) h' h2 ∧ xi h2 Y 0 = 0 ∧ YI h2 Y (zst Z (wtT (sgn (zS Z) g) (sgt (zS Z) g) i))) (sgn (zS Z) g) (by omega) (fun i s' h1 ag hi I again => ?_) ⟨rfl, (iw_yi (A := rYa Y) _ _ _ _ (by unfold rYa; omega)).yi _ _ _ (by unfold rYa; omega), by rw [xi_yi2 _ _ (Or.inr (by decide)), xi_yi1], YI_t0 y0⟩
        obtain ⟨rfl, i1, z1, y1⟩ := I
        have yg := y1.1.1.yg hk
        have rz : xi h1 (Y + 1) (nI g).toNatClampNeg = nI (sgn (zS Z) g) := by rw [xz_nI (by omega)]; exact yg.2.1
        refine xo_g y1.l.1 (xo_n y1.l.r1 (xo_g (y1.l.g1 b.1) ?_))
        rw [rz]
        by_cases e : i = sgn (zS Z) g
        · subst e
          refine xo_t (Int32.le_refl _) (xo_g y1.l.1 (xo_v ⟨y1.2.2.2.2.2.1, i1, z1, y1⟩))
        · have hlt : i < sgn (zS Z) g := by omega
          have h1' := hlen i
          have h2' := h56 i hlt
          refine xo_f (nI_ge hlt (by omega)) (xo_jn ?_)
          have inner : ∀ h2, iw (rYa Y) h' h2 → xi h2 Y 0 = 0 → YI h2 Y (zst Z (wtA i (wtT (sgn (zS Z) g) (sgt (zS Z) g) i))) → xo (xlp (fun again39 (s39 : Int32) h7 => xg (xk h7 Y = 10) <| xnn (xr h7 Y 5) fun w8 => xg (xk h7 w8 = 12 ∧ xin (nI g) (xn h7 w8)) <| if ((xi h7 w8 ((nI g) : Int32).toNatClampNeg) : Int32) ≤ s39 then (ag (nI i + 1) h7) else (xg (xk h7 Y = 10) <| xb (FX9_of E Y (nI g) (nI i) s39 h7) fun v9 h10 => xg (xk h10 Y = 10) <| xb (FX9_says E Y (48 + v9) h10) fun _ h11 => again39 (s39 + 1) h11)) xfu 0 h2) (fun b h2 => b = nI (wtT (sgn (zS Z) g) (sgt (zS Z) g) (sgn (zS Z) g)).length ∧ iw (rYa Y) h' h2 ∧ xi h2 Y 0 = 0 ∧ YI h2 Y (zst Z (wtT (sgn (zS Z) g) (sgt (zS Z) g) (sgn (zS Z) g)))) := fun h2 i2 z2 y2 => by
            refine xlp_inv (Po := fun m => xo m _) (fun k s' h3 => s' = nI k ∧ iw (rYa Y) h' h3 ∧ xi h3 Y 0 = 0 ∧ YI h3 Y (zst Z (wtR (sgt (zS Z) g) i (wtA i (wtT (sgn (zS Z) g) (sgt (zS Z) g) i)) k))) (sgn (zS Z) g) (by omega) (fun k s' h3 ag' hk3 I again' => ?_) ⟨rfl, i2, z2, y2⟩
            obtain ⟨rfl, i3, z3, y3⟩ := I
            have yg3 := y3.1.1.yg hk
            have rz3 : xi h3 (Y + 1) (nI g).toNatClampNeg = nI (sgn (zS Z) g) := by rw [xz_nI (by omega)]; exact yg3.2.1
            refine xo_g y3.l.1 (xo_n y3.l.r1 (xo_g (y3.l.g1 b.1) ?_))
            rw [rz3]
            by_cases e : k = sgn (zS Z) g
            · subst e
              refine xo_t (Int32.le_refl _) ?_
              rw [nI_s]
              exact again hlt _ _ ⟨rfl, i3, z3, y3⟩
            · have hlt2 : k < sgn (zS Z) g := by omega
              refine xo_f (nI_ge hlt2 (by omega)) (xo_g y3.l.1 (xo_eb (FX9_of_v y3.l yg3 hlt hlt2) (xo_g y3.l.1 ?_)))
              have e48 := a48 (sgt (zS Z) g i k)
              rw [show (48 : Int32) + nI (sgt (zS (zst Z (wtR (sgt (zS Z) g) i (wtA i (wtT (sgn (zS Z) g) (sgt (zS Z) g) i)) k))) g i k) = nI (48 + sgt (zS Z) g i k) from e48]
              have hA := wtA_len i (wtT (sgn (zS Z) g) (sgt (zS Z) g) i)
              have hlR := wtR_len (sgt (zS Z) g) i (wtA i (wtT (sgn (zS Z) g) (sgt (zS Z) g) i)) k
              refine xo_b (says_o y3 (by rw [hlR, hA, h1']; split <;> omega) (48 + sgt (zS Z) g i k)) (fun _ h4 q4 => ?_)
              rw [nI_s]
              exact again' hlt2 _ _ ⟨rfl, i3.trans q4.1 (fun _ q => q) (fun _ q => q), by rw [q4.2.1]; exact z3, q4.2.2⟩
          by_cases e0 : i = 0
          · refine xo_t (by rw [e0]; exact Int32.le_refl _) (inner h1 i1 z1 ?_)
            unfold wtA
            rw [if_pos e0]
            exact y1
          · refine xo_f (by rw [← nI_0, nI_leP (by omega) (by omega)]; omega) (xo_g y1.l.1 (xo_b (says_o y1 (by omega) 47) (fun _ h4 q4 => ?_)))
            refine inner h4 (i1.trans q4.1 (fun _ q => q) (fun _ q => q)) (by rw [q4.2.1]; exact z1) ?_
            unfold wtA
            rw [if_neg e0]
            exact q4.2.2
end AG
