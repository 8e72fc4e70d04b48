/-! Calls that change something: the form; texts written. -/
set_option linter.unusedVariables false
abbrev rXa (X a : Nat) : Prop := X ≤ a ∧ a < X + 223
abbrev rYa (Y a : Nat) : Prop := Y ≤ a ∧ a < Y + 25
section AG
variable {E : XG} {h : XH} {X Y O w s f : Nat} {Z : ZD} {cm : Nat → Nat} {FC FM : XH → XP Int32}
theorem rXP_a {X a : Nat} (q : rXP X a) : rXa X a := by
  unfold rXP rPW at q
  unfold rXa
  omega
/-- another text -/
def zst (Z : ZD) (l : List Nat) : ZD := (zld Z, zS Z, zT Z, (zun Z, zu Z), zk Z, (zfl Z, zbf Z), (zer Z, zea Z), (l.length, fun i => l.getD i 0))
theorem zst_wz {l : List Nat} (z : WZ Z) (h1 : l.length ≤ 71) (h2 : ∀ c ∈ l, c < 128) : WZ (zst Z l) := ⟨z.1, z.2.1, z.2.2.1, z.2.2.2.1, z.2.2.2.2.1, h1, fun i hi => h2 _ (gD_mem hi)⟩
theorem XI_txt {h' : XH} {l : List Nat} (x : XI h X w s f Z) (i : iw (fun a => a = X ∨ a = X + 222) h h') (hk : ∀ k, k ≠ 13 → xi h' X k = xi h X k) (h1 : xi h' X 13 = nI l.length) (h2 : ∀ i, i < l.length → xi h' (X + 222) i = nI (l.getD i 0)) : XI h' X w s f (zst Z l) := by
  have ws := x.ws
  obtain ⟨⟨x1, x2, x3, x4, x5, x6⟩, ⟨x7, x8⟩, ⟨x9, x10⟩, ⟨x11, x12, x13⟩, ⟨⟨x14, x15, x16⟩, x17⟩, x18, x19, x20⟩ := x
  refine ⟨⟨XL_iw x1 i, by rw [i.r]; exact x2, by rw [i.r]; exact x3, x4, WL_iw x5 i, fun g hg => ?_, fun m hm => ?_⟩, ⟨x7.iw i (fun a q => by omega), NC_iw x7.1.1 x8 i (fun a q1 q2 => by omega)⟩, ⟨?_, fun j hj => ?_⟩, ⟨?_, ?_, ?_⟩, ⟨⟨x14, ?_, ?_⟩, fun j hj => CR_iw (x17 j hj) i (by omega)⟩, fun j hj => ⟨?_, fun T hT => CR_iw ((x18 j hj).2 T hT) i (by omega)⟩, h1, h2⟩
  · rw [i.i _ (by omega)]; exact x6.1 g hg
  · rw [i.i _ (by omega)]; exact x6.2 m hm
  · rw [hk _ (by decide)]; exact x9
  · rw [i.i _ (by omega)]; exact x10 j hj
  · rw [hk _ (by decide)]; exact x11
  · rw [hk _ (by decide)]; exact x12
  · rw [hk _ (by decide)]; exact x13
  · rw [hk _ (by decide)]; exact x15
  · rw [hk _ (by decide)]; exact x16
  · rw [hk _ (by decide)]; exact (x18 j hj).1
theorem byt : ∀ c, c < 128 → vp_nar .byte (Int8.toInt32 (Int32.toInt8 (nI c))) = nI c := by decide +kernel
theorem write_o {l : List Nat} (x : XI h X w s f (zst Z l)) (hl : l.length < 71) {c : Nat} (hc : c < 128) : xo (FX8_write E X (nI c) h) (fun _ h' => iw (rXa X) h h' ∧ XI h' X w s f (zst Z (l ++ [c]))) := by
  obtain ⟨r12, k12, n12⟩ := x.1.1.2.2.2.2.2.2
  have t1 : xi h X 13 = nI l.length := x.2.2.2.2.2.2.1
  have t2 : ∀ i, i < l.length → xi h (X + 222) i = nI (l.getD i 0) := x.2.2.2.2.2.2.2
  have hn : ¬ 71 ≤ l.length := by omega
  have e : FX8_write E X (nI c) h = xv () (yi (yi h (X + 222) l.length (nI c)) X 13 (nI (l.length + 1))) := by
    unfold FX8_write
    (try dsimp only); (rw [xg_t (x.k), xg_t (x.k), xnn_e (r12), xg_t (k12), xjn_d, t1, n12, ofNat_nI, if_neg (show ¬ nI 71 ≤ nI l.length by rw [nI_leP (by omega) (by omega)]; exact hn), xg_t (x.k), xnn_e (r12), xg_t (x.k), xg_t (show xk h (X + 222) = 11 ∧ xin (nI l.length) (xn h (X + 222)) from ⟨k12, by rw [n12]; exact xin_nI hl (by omega)⟩), xlt_d, byt c hc])
    rw [xz_nI (by omega)]
    (try dsimp only); (rw [xg_t (show xk (yi h (X + 222) l.length (nI c)) X = 9 from x.k), xg_t (show xk (yi h (X + 222) l.length (nI c)) X = 9 from x.k), xlt_d, xi_yi2 h (b := X) (j := 13) (a := X + 222) (k := l.length) (nI c) (Or.inl (by omega)), t1, nI_s])
  refine xo_e e ⟨?_, XI_txt (Z := zst Z l) (l := l ++ [c]) x ?_ (fun k hk => ?_) ?_ (fun i hi => ?_)⟩
  · exact (iw_yi (A := rXa X) _ _ _ _ (by unfold rXa; omega)).yi _ _ _ (by unfold rXa; omega)
  · exact (iw_yi (A := fun a => a = X ∨ a = X + 222) _ _ _ _ (Or.inr rfl)).yi _ _ _ (Or.inl rfl)
  · rw [xi_yi2 _ _ (Or.inr hk), xi_yi2 _ _ (Or.inl (by omega))]
  · rw [xi_yi1, List.length_append, List.length_singleton]
  · rw [List.length_append, List.length_singleton] at hi
    rw [xi_yi2 _ _ (Or.inl (by omega))]
    by_cases q : i = l.length
    · subst q; rw [xi_yi1, gD_r]
    · rw [xi_yi2 _ _ (Or.inr q), gD_l (by omega)]; exact t2 i (by omega)
theorem XI_t0 (x : XI h X w s f Z) : XI (yi h X 13 0) X w s f (zst Z []) := XI_txt x (iw_yi (A := fun a => a = X ∨ a = X + 222) _ _ _ _ (Or.inl rfl)) (fun k hk => xi_yi2 _ _ (Or.inr hk)) (xi_yi1 _ _ _ _) (fun i hi => absurd hi (Nat.not_lt_zero _))
/-- a table as a text -/
def wtR (t : Nat → Nat → Nat) (a : Nat) (l : List Nat) : Nat → List Nat := fld (fun b l => l ++ [48 + t a b]) l
def wtA (a : Nat) (l : List Nat) : List Nat := if a = 0 then l else l ++ [47]
def wtT (n : Nat) (t : Nat → Nat → Nat) : Nat → List Nat := fld (fun a l => wtR t a (wtA a l) n) []
theorem wtR_len (t : Nat → Nat → Nat) (a : Nat) (l : List Nat) (i : Nat) : (wtR t a l i).length = l.length + i := by
  induction i with
  | zero => rfl
  | succ i ih => show (wtR t a l i ++ [_]).length = _; rw [List.length_append, ih, List.length_singleton]; omega
theorem wtA_len (a : Nat) (l : List Nat) : (wtA a l).length = l.length + if a = 0 then 0 else 1 := by
  unfold wtA
  split
  · rfl
  · rw [List.length_append]; rfl
theorem wtT_len (n : Nat) (t : Nat → Nat → Nat) (i : Nat) : (wtT n t i).length = n * i + (i - 1) := by
  induction i with
  | zero => rfl
  | succ i ih =>
    show (wtR t i (wtA i (wtT n t i)) n).length = _
    rw [wtR_len, wtA_len, ih, Nat.mul_succ]
    split <;> omega
theorem wtT_128 {n : Nat} {t : Nat → Nat → Nat} (ht : ∀ a b, a < n → b < n → t a b < 8) : ∀ i, i ≤ n → ∀ c ∈ wtT n t i, c < 128 := by
  intro i
  induction i with
  | zero => intro _ c hc; cases hc
  | succ i ih =>
    intro hi
    show ∀ c ∈ wtR t i (wtA i (wtT n t i)) n, c < 128
    have h1 : ∀ c ∈ wtA i (wtT n t i), c < 128 := fun c hc => by
      unfold wtA at hc
      split at hc
      · exact ih (by omega) c hc
      · rcases List.mem_append.mp hc with q | q
        · exact ih (by omega) c q
        · rw [List.mem_singleton.mp q]; decide
    have h2 : ∀ j, j ≤ n → ∀ c ∈ wtR t i (wtA i (wtT n t i)) j, c < 128 := by
      intro j
      induction j with
      | zero => exact fun _ => h1
      | succ j jh =>
        intro hj c hc
        rcases List.mem_append.mp (show c ∈ wtR t i (wtA i (wtT n t i)) j ++ [48 + t i j] from hc) with q | q
        · exact jh (by omega) c q
        · rw [List.mem_singleton.mp q]
          have := ht i j (by omega) (by omega)
          omega
    exact h2 n (Nat.le_refl _)
theorem a48 (b : Nat) : (48 : Int32) + nI b = nI (48 + b) := by rw [show (48 : Int32) = nI 48 from rfl, nI_a]
theorem n8i {n i : Nat} (hn : n ≤ 8) (hi : i ≤ 7) : n * i ≤ 56 := by
  have := Nat.mul_le_mul hn hi
  omega
end AG
