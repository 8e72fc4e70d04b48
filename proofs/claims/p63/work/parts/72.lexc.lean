/-! The class's tokens. -/
set_option linter.unusedVariables false
/-- the three counters: the next place, the cells made, the slots made -/
def xs3 (h : XH) : Nat × Nat × Nat := h.2.2.2.2.2
theorem iw.s3 {A : Nat → Prop} {h h' : XH} (i : iw A h h') : xs3 h' = xs3 h := by obtain ⟨f, rfl, -⟩ := i; rfl
def fW (A R : Nat → Nat → Prop) (h h' : XH) : Prop := (xs3 h' = xs3 h ∧ (∀ a, xk h' a = xk h a) ∧ ∀ a, xn h' a = xn h a) ∧ (∀ a j, ¬ A a j → xi h' a j = xi h a j) ∧ (∀ a j, (¬ A a j ∨ ¬ (xk h a = 13 ∨ xk h a = 7)) → xj h' a j = xj h a j) ∧ ∀ a j, ¬ R a j → xr h' a j = xr h a j
def noR : Nat → Nat → Prop := fun _ _ => False
section FW
variable {A R A' R' : Nat → Nat → Prop} {h h1 h2 : XH}
theorem fW.s3 (w : fW A R h h1) : xs3 h1 = xs3 h := w.1.1
theorem fW.t (w : fW A R h h1) : xt h1 = xt h := congrArg Prod.fst w.1.1
theorem fW.c (w : fW A R h h1) : xc h1 = xc h := congrArg (fun z => z.2.1) w.1.1
theorem fW.u (w : fW A R h h1) : xu h1 = xu h := congrArg (fun z => z.2.2) w.1.1
theorem fW.k (w : fW A R h h1) (a : Nat) : xk h1 a = xk h a := w.1.2.1 a
theorem fW.n (w : fW A R h h1) (a : Nat) : xn h1 a = xn h a := w.1.2.2 a
theorem fW.i (w : fW A R h h1) {a j : Nat} (q : ¬ A a j) : xi h1 a j = xi h a j := w.2.1 a j q
theorem fW.j (w : fW A R h h1) {a j : Nat} (q : ¬ A a j) : xj h1 a j = xj h a j := w.2.2.1 a j (Or.inl q)
theorem fW.r (w : fW A R h h1) {a j : Nat} (q : ¬ R a j) : xr h1 a j = xr h a j := w.2.2.2 a j q
theorem fW.rn (w : fW A noR h h1) (a j : Nat) : xr h1 a j = xr h a j := w.2.2.2 a j (fun q => q)
theorem fW.refl (A R : Nat → Nat → Prop) (h : XH) : fW A R h h := ⟨⟨rfl, fun _ => rfl, fun _ => rfl⟩, fun _ _ _ => rfl, fun _ _ _ => rfl, fun _ _ _ => rfl⟩
theorem fW.trans (w : fW A R h h1) (v : fW A R h1 h2) : fW A R h h2 := ⟨⟨v.s3.trans w.s3, fun a => (v.k a).trans (w.k a), fun a => (v.n a).trans (w.n a)⟩, fun a j q => (v.i q).trans (w.i q), fun a j q => (v.2.2.1 a j (by rw [w.k]; exact q)).trans (w.2.2.1 a j q), fun a j q => (v.r q).trans (w.r q)⟩
theorem fW.wide (w : fW A R h h1) (hA : ∀ a j, A a j → A' a j) (hR : ∀ a j, R a j → R' a j) : fW A' R' h h1 := ⟨w.1, fun a j q => w.2.1 a j (fun z => q (hA a j z)), fun a j q => w.2.2.1 a j (q.imp (fun y z => y (hA a j z)) id), fun a j q => w.2.2.2 a j (fun z => q (hR a j z))⟩
theorem fw_i {a k : Nat} {x : Int32} (e : h1 = yi h a k x) (q : A a k) : fW A R h h1 := by
  subst e
  exact ⟨⟨rfl, fun _ => rfl, fun _ => rfl⟩, fun b j z => xi_yi2 _ _ (by
    by_cases c : b = a
    · right; intro d; subst c; subst d; exact z q
    · exact Or.inl c), fun _ _ _ => rfl, fun _ _ _ => rfl⟩
theorem fw_j {a k : Nat} {x : Int64} (e : h1 = yj h a k x) (q : A a k) (hk : xk h a = 13 ∨ xk h a = 7) : fW A R h h1 := by
  subst e
  exact ⟨⟨rfl, fun _ => rfl, fun _ => rfl⟩, fun b j z => rfl, fun b j z => by
    rw [xj_yj, if_neg]
    rintro ⟨c, d⟩
    subst c; subst d
    rcases z with z | z
    · exact z q
    · exact z hk, fun _ _ _ => rfl⟩
theorem fw_r {a k : Nat} {x : Option Nat} (e : h1 = yr h a k x) (q : R a k) : fW A R h h1 := by
  subst e
  exact ⟨⟨rfl, fun _ => rfl, fun _ => rfl⟩, fun b j z => rfl, fun b j z => rfl, fun b j z => by rw [xr_yr, if_neg]; rintro ⟨c, d⟩; subst c; subst d; exact z q⟩
theorem fw_iw {B : Nat → Prop} (i : iw B h h1) (hB : ∀ a j, B a → A a j) : fW A R h h1 := ⟨⟨i.s3, i.k, i.n⟩, fun a j q => i.i j (fun z => q (hB a j z)), fun a j q => i.j a j, fun a j _ => i.r a j⟩
/-- where no cell may hold longs, only ints are written -/
theorem iw_fw {B : Nat → Prop} (w : fW A noR h h1) (hA : ∀ a j, A a j → B a ∧ ¬ (xk h a = 13 ∨ xk h a = 7)) : iw B h h1 := by
  refine ⟨xi h1, ?_, fun a j q => w.i (fun z => q (hA a j z).1)⟩
  obtain ⟨a1, a2, a3, a4, a5, a6⟩ := h
  obtain ⟨b1, b2, b3, b4, b5, b6⟩ := h1
  have e1 : b1 = a1 := funext (fun a => w.k a)
  have e2 : b2 = a2 := funext (fun a => w.n a)
  have e4 : b4 = a4 := funext (fun a => funext (fun j => by
    by_cases z : A a j
    · exact w.2.2.1 a j (Or.inr (hA a j z).2)
    · exact w.j z))
  have e5 : b5 = a5 := funext (fun a => funext (fun j => w.rn a j))
  have e6 : b6 = a6 := w.s3
  subst e1; subst e2; subst e4; subst e5; subst e6
  rfl
end FW
theorem e_s {h h' : XH} {a k : Nat} {x : Int32} (e : h' = yi h a k x) : xi h' a k = x := by rw [e, xi_yi1]
theorem e_o {h h' : XH} {a k b j : Nat} {x : Int32} (e : h' = yi h a k x) (q : b ≠ a ∨ j ≠ k) : xi h' b j = xi h b j := by rw [e, xi_yi2 _ _ q]
theorem e_j {h h' : XH} {a k : Nat} {x : Int64} (e : h' = yj h a k x) : xj h' a k = x := by rw [e, xj_yj, if_pos ⟨rfl, rfl⟩]
theorem e_ji {h h' : XH} {a k b j : Nat} {x : Int64} (e : h' = yj h a k x) : xi h' b j = xi h b j := by rw [e, xi_yj]
theorem xo_wi {α : Type} {h : XH} {a k : Nat} {x : Int32} {f : XH → XP α} {Q : α → XH → Prop} (hm : ∀ h', h' = yi h a k x → xo (f h') Q) : xo (xlt (yi h a k x) f) Q := hm _ rfl
theorem xo_wj {α : Type} {h : XH} {a k : Nat} {x : Int64} {f : XH → XP α} {Q : α → XH → Prop} (hm : ∀ h', h' = yj h a k x → xo (f h') Q) : xo (xlt (yj h a k x) f) Q := hm _ rfl
theorem xo_wr {α : Type} {h : XH} {a k : Nat} {x : Option Nat} {f : XH → XP α} {Q : α → XH → Prop} (hm : ∀ h', h' = yr h a k x → xo (f h') Q) : xo (xlt (yr h a k x) f) Q := hm _ rfl
/-- the tokens' object at K over the buffer behind X -/
def KL (h : XH) (K X : Nat) (B : BF) : Prop := (xk h K = 7 ∧ xr h K 0 = some (X + 1) ∧ xi h K 1 = nI B.2) ∧ (xk h (X + 1) = 11 ∧ xn h (X + 1) = 900) ∧ (B.2 ≤ 900 ∧ X + 1 < K) ∧ ∀ i, i < B.2 → xi h (X + 1) i = sb (B.1 i) ∧ B.1 i < 256
def tA (K : Nat) : Nat → Nat → Prop := fun a j => a = K ∧ 2 ≤ j
def KT (h : XH) (K : Nat) (B : BF) (t : TK) : Prop := (xi h K 2 = nI (tkA t) ∧ xi h K 3 = nI (tkB t) ∧ xi h K 4 = nI (tkK t)) ∧ (tkK t = 1 → xj h K 5 = Int64.ofNat (pkN (wdT B t))) ∧ (tkK t = 2 → xi h K 6 = nI (vlT B t))
theorem sb_sp : ∀ b, b < 256 → ((¬ sb b < 32 ∧ ¬ 32 < sb b) ↔ (32 ≤ b ∧ b ≤ 32)) := by decide +kernel
theorem sb_lt : ∀ b, b < 256 → ((¬ sb b < 97 ∧ ¬ 122 < sb b) ↔ (97 ≤ b ∧ b ≤ 122)) := by decide +kernel
theorem sb_dgt : ∀ b, b < 256 → ((¬ sb b < 48 ∧ ¬ 57 < sb b) ↔ (48 ≤ b ∧ b ≤ 57)) := by decide +kernel
theorem sb_59 : ∀ b, b < 256 → (sb b = 59 ↔ b = 59) := by decide +kernel
theorem sb_nI : ∀ b, b < 128 → sb b = nI b := by decide +kernel
theorem sb_le : ∀ b, b < 256 → ∀ c, c < 128 → (sb b = nI c ↔ b = c) := by decide +kernel
section KLS
variable {E : XG} {h h' : XH} {K X p i : Nat} {B : BF} {t : TK} {A : Nat → Nat → Prop}
theorem KL.fw {R : Nat → Nat → Prop} (l : KL h K X B) (w : fW A R h h') (q1 : ¬ A K 1) (q2 : ∀ j, ¬ A (X + 1) j) (q3 : ¬ R K 0) : KL h' K X B := by
  obtain ⟨⟨l1, l2, l3⟩, ⟨l4, l5⟩, l6, l7⟩ := l
  exact ⟨⟨(w.k _).trans l1, (w.r q3).trans l2, (w.i q1).trans l3⟩, ⟨(w.k _).trans l4, (w.n _).trans l5⟩, l6, fun i hi => ⟨(w.i (q2 i)).trans (l7 i hi).1, (l7 i hi).2⟩⟩
theorem KL.ft (l : KL h K X B) (w : fW (tA K) noR h h') : KL h' K X B := l.fw w (fun q => by have := q.2; omega) (fun j q => by have := q.1; have := l.2.2.1.2; omega) (fun q => q)
theorem KT.fw {R : Nat → Nat → Prop} (l : KT h K B t) (w : fW A R h h') (q : ∀ j, ¬ A K j) : KT h' K B t :=
  ⟨⟨(w.i (q _)).trans l.1.1, (w.i (q _)).trans l.1.2.1, (w.i (q _)).trans l.1.2.2⟩, fun k => (w.j (q _)).trans (l.2.1 k), fun k => (w.i (q _)).trans (l.2.2 k)⟩
theorem KL.k (l : KL h K X B) : xk h K = 7 := l.1.1
theorem endOfRun_v (l : KL h K X B) (hi0 : i ≤ B.2) {lo hi : Nat} {p2 p3 : Int32} (hh : ∀ b, b < 256 → ((¬ sb b < p2 ∧ ¬ p3 < sb b) ↔ (lo ≤ b ∧ b ≤ hi))) : FX6_endOfRun E K (nI i) p2 p3 h = xv (nI (rnE B lo hi i)) h := by
  obtain ⟨⟨l1, l2, l3⟩, ⟨l4, l5⟩, ⟨l6, l7⟩, l8⟩ := l
  have ge := rnE_ge B lo hi i
  have le := rnE_le (lo := lo) (hi := hi) hi0
  unfold FX6_endOfRun
  refine xlp_all (R := xv (nI (rnE B lo hi i)) h) (fun k => nI (i + k)) (fun _ => h) (rnE B lo hi i - i) (by omega) (fun k hk ag => ?_) (fun ag => ?_)
  · have c1 : ¬ nI (i + k) < (0 : Int32) := by rw [nI_lt0 (by omega)]; exact id
    have c2 : ¬ nI B.2 ≤ nI (i + k) := by rw [nI_leP (by omega) (by omega)]; omega
    have c3 : ¬ Int32.ofNat 900 ≤ nI (i + k) := by rw [ofNat_nI, nI_leP (by omega) (by omega)]; omega
    have q := rnE_in (B := B) (lo := lo) (hi := hi) (i := i) (j := i + k) (by omega) (by omega)
    obtain ⟨b1, b2⟩ := l8 (i + k) (by omega)
    obtain ⟨c4, c5⟩ := (hh _ b2).mpr q
    have g : xk h (X + 1) = 11 ∧ xin (nI (i + k)) (xn h (X + 1)) := ⟨l4, by rw [l5]; exact xin_nI (by omega) (by omega)⟩
    (try dsimp only); (rw [xjn_d, if_neg c1, xg_t (l1), l3, if_neg c2, xg_t (l1), xnn_e (l2), xg_t (l4), l5, if_neg c3, xg_t (l1), xnn_e (l2)])
    have d4 : ¬ xi h (X + 1) (nI (i + k)).toNatClampNeg < p2 := by rw [xz_nI (by omega), b1]; exact c4
    have d5 : ¬ p3 < xi h (X + 1) (nI (i + k)).toNatClampNeg := by rw [xz_nI (by omega), b1]; exact c5
    (try dsimp only); (rw [xg_t (g), if_neg d4, xg_t (l1), xnn_e (l2), xg_t (g), if_neg d5, nI_s])
    rfl
  · have e : i + (rnE B lo hi i - i) = rnE B lo hi i := by omega
    rw [e]
    have c1 : ¬ nI (rnE B lo hi i) < (0 : Int32) := by rw [nI_lt0 (by omega)]; exact id
    by_cases c : rnE B lo hi i < B.2
    · have c2 : ¬ nI B.2 ≤ nI (rnE B lo hi i) := by rw [nI_leP (by omega) (by omega)]; omega
      have c3 : ¬ Int32.ofNat 900 ≤ nI (rnE B lo hi i) := by rw [ofNat_nI, nI_leP (by omega) (by omega)]; omega
      obtain ⟨b1, b2⟩ := l8 (rnE B lo hi i) c
      have q := mt (hh _ b2).mp (rnE_end c)
      have g : xk h (X + 1) = 11 ∧ xin (nI (rnE B lo hi i)) (xn h (X + 1)) := ⟨l4, by rw [l5]; exact xin_nI (by omega) (by omega)⟩
      (try dsimp only); (rw [xjn_d, if_neg c1, xg_t (l1), l3, if_neg c2, xg_t (l1), xnn_e (l2), xg_t (l4), l5, if_neg c3, xg_t (l1), xnn_e (l2)])
      (try dsimp only); (rw [xg_t (g)])
      have eb : xi h (X + 1) (nI (rnE B lo hi i)).toNatClampNeg = sb (B.1 (rnE B lo hi i)) := by rw [xz_nI (by omega), b1]
      by_cases c4 : sb (B.1 (rnE B lo hi i)) < p2
      · rw [if_pos (show xi h (X + 1) (nI (rnE B lo hi i)).toNatClampNeg < p2 by rw [eb]; exact c4)]
      · have c5 : p3 < sb (B.1 (rnE B lo hi i)) := Decidable.byContradiction (fun z => q ⟨c4, z⟩)
        (try dsimp only); (rw [if_neg (show ¬ xi h (X + 1) (nI (rnE B lo hi i)).toNatClampNeg < p2 by rw [eb]; exact c4), xg_t (l1), xnn_e (l2), xg_t (g), if_pos (show p3 < xi h (X + 1) (nI (rnE B lo hi i)).toNatClampNeg by rw [eb]; exact c5)])
    · have c2 : nI B.2 ≤ nI (rnE B lo hi i) := by rw [nI_leP (by omega) (by omega)]; omega
      (try dsimp only); (rw [xjn_d, if_neg c1, xg_t (l1), l3, if_pos c2])
theorem byteAt_v (l : KL h K X B) (hi : i < 2 ^ 31) : FX6_byteAt E K (nI i) h = xv (if i < B.2 then sb (B.1 i) else 0) h := by
  obtain ⟨⟨l1, l2, l3⟩, ⟨l4, l5⟩, ⟨l6, l7⟩, l8⟩ := l
  have c1 : ¬ nI i < (0 : Int32) := by rw [nI_lt0 (by omega)]; exact id
  unfold FX6_byteAt
  by_cases c : i < B.2
  · have c2 : ¬ nI B.2 ≤ nI i := by rw [nI_leP (by omega) (by omega)]; omega
    have c3 : ¬ Int32.ofNat 900 ≤ nI i := by rw [ofNat_nI, nI_leP (by omega) (by omega)]; omega
    have g : xk h (X + 1) = 11 ∧ xin (nI i) (xn h (X + 1)) := ⟨l4, by rw [l5]; exact xin_nI (by omega) (by omega)⟩
    (try dsimp only); (rw [xjn_d, xjn_d, if_neg c1, xg_t (l1), l3, if_neg c2, xg_t (l1), xnn_e (l2), xg_t (l4), l5, if_neg c3, xg_t (l1), xnn_e (l2), xg_t (g), xz_nI (n := i) hi, (l8 i c).1, if_pos c])
  · have c2 : nI B.2 ≤ nI i := by rw [nI_leP (by omega) (by omega)]; omega
    (try dsimp only); (rw [xjn_d, xjn_d, if_neg c1, xg_t (l1), l3, if_pos c2, if_neg c])
theorem pk_amt : (((5 : Int32).toInt64 &&& 63).toBitVec.smod 64).toNat = 5 := by decide +kernel
theorem pk_dg : ∀ c, c < 123 → 97 ≤ c → Int32.toInt64 ((sb c - 97) + 1) = Int64.ofNat (c - 96) := by decide +kernel
theorem pk_step {x d : Nat} (hx : x < 2 ^ 55) (hd : d < 32) : (Int64.ofNat x <<< ((5 : Int32).toInt64 &&& 63)) ||| Int64.ofNat d = Int64.ofNat (x * 32 + d) := by
  apply Int64.toBitVec_inj.mp
  rw [Int64.toBitVec_or, Int64.toBitVec_shiftLeft]
  show (BitVec.ofNat 64 x) <<< (((5 : Int32).toInt64 &&& 63).toBitVec.smod 64) ||| BitVec.ofNat 64 d = BitVec.ofNat 64 (x * 32 + d)
  apply BitVec.eq_of_toNat_eq
  rw [BitVec.toNat_or, BitVec.shiftLeft_eq', pk_amt, BitVec.toNat_shiftLeft, BitVec.toNat_ofNat, BitVec.toNat_ofNat, BitVec.toNat_ofNat, Nat.mod_eq_of_lt (show x < 2 ^ 64 by omega), Nat.mod_eq_of_lt (show d < 2 ^ 64 by omega), Nat.shiftLeft_eq, Nat.mod_eq_of_lt (show x * 2 ^ 5 < 2 ^ 64 by omega), Nat.mod_eq_of_lt (show x * 32 + d < 2 ^ 64 by omega), show x * 2 ^ 5 = x <<< 5 from (Nat.shiftLeft_eq x 5).symm, ← Nat.shiftLeft_add_eq_or_of_lt (show d < 2 ^ 5 by omega), Nat.shiftLeft_eq]
theorem wd_pre (B : BF) (a k : Nat) : (List.range (k + 1)).map (fun i => B.1 (a + i)) = (List.range k).map (fun i => B.1 (a + i)) ++ [B.1 (a + k)] := by
  rw [List.range_succ, List.map_append]
  rfl
theorem packed_v (l : KL h K X B) {a b : Nat} (e2 : xi h K 2 = nI a) (e3 : xi h K 3 = nI b) (h1 : a < b) (h2 : b ≤ a + 10) (h3 : b ≤ B.2) (hl : ∀ i, a ≤ i → i < b → 97 ≤ B.1 i ∧ B.1 i ≤ 122) : FX6_packed E K h = xv (Int64.ofNat (pkN ((List.range (b - a)).map (fun i => B.1 (a + i))))) h := by
  obtain ⟨⟨l1, l2, l3⟩, ⟨l4, l5⟩, ⟨l6, l7⟩, l8⟩ := l
  unfold FX6_packed
  (try dsimp only); (rw [xg_t (l1), xlt_d, e2])
  refine xlp_all (R := xv (Int64.ofNat (pkN ((List.range (b - a)).map (fun i => B.1 (a + i))))) h) (fun k => (Int64.ofNat (pkN ((List.range k).map (fun i => B.1 (a + i)))), nI (a + k))) (fun _ => h) (b - a) (by omega) (fun k hk ag => ?_) (fun ag => ?_)
  · have c1 : ¬ nI (a + k) < (0 : Int32) := by rw [nI_lt0 (by omega)]; exact id
    have c2 : ¬ nI b ≤ nI (a + k) := by rw [nI_leP (by omega) (by omega)]; omega
    have c3 : ¬ Int32.ofNat 900 ≤ nI (a + k) := by rw [ofNat_nI, nI_leP (by omega) (by omega)]; omega
    have g : xk h (X + 1) = 11 ∧ xin (nI (a + k)) (xn h (X + 1)) := ⟨l4, by rw [l5]; exact xin_nI (by omega) (by omega)⟩
    have q := hl (a + k) (by omega) (by omega)
    have ok : ∀ c ∈ (List.range k).map (fun i => B.1 (a + i)), 97 ≤ c ∧ c ≤ 122 := fun c hc => by
      obtain ⟨i, hi, rfl⟩ := List.mem_map.mp hc
      rw [List.mem_range] at hi
      exact hl _ (by omega) (by omega)
    have lt := pkN_lt _ ok
    rw [List.length_map, List.length_range] at lt
    have lt2 : pkN ((List.range k).map (fun i => B.1 (a + i))) < 2 ^ 55 := Nat.lt_of_lt_of_le lt (Nat.le_trans (Nat.pow_le_pow_right (by decide) (show k ≤ 9 by omega)) (by decide))
    (try dsimp only); (rw [xjn_d, if_neg c1, xg_t (l1), e3, if_neg c2, xg_t (l1), xnn_e (l2), xg_t (l4), l5, if_neg c3, xg_t (l1), xnn_e (l2), xg_t (g), xz_nI (n := a + k) (by omega), (l8 (a + k) (by omega)).1, xlt_d, pk_dg _ (by omega) q.1, pk_step lt2 (show B.1 (a + k) - 96 < 32 by omega), nI_s])
    rw [wd_pre, pkN_app]
    rfl
  · have e : a + (b - a) = b := by omega
    have c1 : ¬ nI b < (0 : Int32) := by rw [nI_lt0 (by omega)]; exact id
    have c2 : nI b ≤ nI b := Int32.le_refl _
    dsimp only
    rw [e]
    (try dsimp only); (rw [xjn_d, if_neg c1, xg_t (l1), e3, if_pos c2])
theorem reck_v (l : KL h K X B) {a b : Nat} (e2 : xi h K 2 = nI a) (e3 : xi h K 3 = nI b) (h1 : a < b) (h2 : b ≤ a + 2) (h3 : b ≤ B.2) (hl : ∀ i, a ≤ i → i < b → 48 ≤ B.1 i ∧ B.1 i ≤ 57) : FX6_reckoned E K h = xv (nI (if b = a + 1 then B.1 a - 48 else 10 * (B.1 a - 48) + (B.1 (a + 1) - 48))) h := by
  obtain ⟨⟨l1, l2, l3⟩, ⟨l4, l5⟩, ⟨l6, l7⟩, l8⟩ := l
  unfold FX6_reckoned
  (try dsimp only); (rw [xg_t (l1), xlt_d, e2])
  refine xlp_all (R := xv (nI (if b = a + 1 then B.1 a - 48 else 10 * (B.1 a - 48) + (B.1 (a + 1) - 48))) h) (fun k => (nI (if k = 0 then 0 else if k = 1 then B.1 a - 48 else 10 * (B.1 a - 48) + (B.1 (a + 1) - 48)), nI (a + k))) (fun _ => h) (b - a) (by omega) (fun k hk ag => ?_) (fun ag => ?_)
  · have c1 : ¬ nI (a + k) < (0 : Int32) := by rw [nI_lt0 (by omega)]; exact id
    have c2 : ¬ nI b ≤ nI (a + k) := by rw [nI_leP (by omega) (by omega)]; omega
    have c3 : ¬ Int32.ofNat 900 ≤ nI (a + k) := by rw [ofNat_nI, nI_leP (by omega) (by omega)]; omega
    have g : xk h (X + 1) = 11 ∧ xin (nI (a + k)) (xn h (X + 1)) := ⟨l4, by rw [l5]; exact xin_nI (by omega) (by omega)⟩
    have q := hl (a + k) (by omega) (by omega)
    (try dsimp only); (rw [xjn_d, if_neg c1, xg_t (l1), e3, if_neg c2, xg_t (l1), xnn_e (l2), xg_t (l4), l5, if_neg c3, xg_t (l1), xnn_e (l2), xg_t (g), xz_nI (n := a + k) (by omega), (l8 (a + k) (by omega)).1, xlt_d, sb_nI _ (show B.1 (a + k) < 128 by omega), li10, nI_m, nI_a, nI_s])
    rw [show (48 : Int32) = nI 48 from rfl, pk_sub (by omega)]
    have hk2 : k = 0 ∨ k = 1 := by omega
    rcases hk2 with rfl | rfl
    · show ag (nI (0 * 10 + B.1 (a + 0) - 48), nI (a + 0 + 1)) h = ag (nI (B.1 a - 48), nI (a + (0 + 1))) h
      rw [Nat.zero_mul, Nat.zero_add]
      rfl
    · show ag (nI ((B.1 a - 48) * 10 + B.1 (a + 1) - 48), nI (a + 1 + 1)) h = ag (nI (10 * (B.1 a - 48) + (B.1 (a + 1) - 48)), nI (a + (1 + 1))) h
      rw [show (B.1 a - 48) * 10 + B.1 (a + 1) - 48 = 10 * (B.1 a - 48) + (B.1 (a + 1) - 48) by omega]
  · have e : a + (b - a) = b := by omega
    have c1 : ¬ nI b < (0 : Int32) := by rw [nI_lt0 (by omega)]; exact id
    have c2 : nI b ≤ nI b := Int32.le_refl _
    dsimp only
    rw [e]
    (try dsimp only); (rw [xjn_d, if_neg c1, xg_t (l1), e3, if_pos c2])
    by_cases c : b = a + 1
    · rw [if_neg (by omega), if_pos (by omega), if_pos c]
    · rw [if_neg (by omega), if_neg (by omega), if_neg c]
theorem isBetween_v {p2 p3 : Int32} {x : Int32} {c : Bool} (hh : (¬ x < p2 ∧ ¬ p3 < x) ↔ c = true) : FX8_isBetween E x p2 p3 h = xv (bI c) h := by
  unfold FX8_isBetween
  rw [xjn_d, xjn_d]
  cases c
  · by_cases c1 : x < p2
    · (try dsimp only); (rw [if_pos c1, xg_t ((show (0 : Int32) = 0 ∨ (0 : Int32) = 1 from Or.inl rfl))])
      rfl
    · have c2 : p3 < x := Decidable.byContradiction (fun z => by cases hh.mp ⟨c1, z⟩)
      (try dsimp only); (rw [if_neg c1, if_pos c2, xg_t ((show (0 : Int32) = 0 ∨ (0 : Int32) = 1 from Or.inl rfl))])
      rfl
  · obtain ⟨c1, c2⟩ := hh.mpr rfl
    (try dsimp only); (rw [if_neg c1, if_neg c2, xg_t ((show (1 : Int32) = 0 ∨ (1 : Int32) = 1 from Or.inr rfl))])
    rfl
theorem advance_o (l : KL h K X B) (ht : xi h K 3 = nI p) (hp : p ≤ B.2) : xo (FX6_advance E K h) (fun _ h' => fW (tA K) noR h h' ∧ KT h' K B (tkF B p)) := by
  have l9 := l.2.2.1.1
  have hs := rnE_le (lo := 32) (hi := 32) hp
  unfold FX6_advance
  refine xo_g l.k (xo_g l.k ?_)
  rw [ht]
  refine xo_eb (endOfRun_v l hp sb_sp) (xo_g l.k (xo_wi (fun h3 e3 => ?_)))
  unfold tkF
  generalize rnE B 32 32 p = s at *
  have w3 : fW (tA K) noR h h3 := fw_i e3 ⟨rfl, by omega⟩
  have l3 := l.ft w3
  have a2 := e_s e3
  refine xo_g l3.k (xo_g l3.k ?_)
  rw [a2]
  refine xo_eb (byteAt_v l3 (by omega)) (xo_g l3.k (xo_g l3.k (xo_jn ?_)))
  rw [a2, l3.1.2.2]
  unfold tkG
  by_cases c : s < B.2
  · refine xo_t (by rw [nI_ltP (by omega) (by omega)]; exact c) ?_
    rw [if_neg (show ¬ B.2 ≤ s by omega), if_pos c]
    obtain ⟨b1, b2⟩ := l3.2.2.2 s c
    by_cases c2 : 97 ≤ B.1 s ∧ B.1 s ≤ 122
    · refine xo_eb (isBetween_v (c := true) ⟨fun _ => rfl, fun _ => (sb_lt _ b2).mpr c2⟩) (xo_f (by decide) (xo_g l3.k (xo_g l3.k ?_)))
      rw [if_pos c2, a2]
      have q := rnE_le (B := B) (lo := 97) (hi := 122) (i := s) (by omega)
      have q2 := rnE_pos (B := B) (i := s) c c2.1 c2.2
      have q3 : ∀ i, s ≤ i → i < rnE B 97 122 s → 97 ≤ B.1 i ∧ B.1 i ≤ 122 := fun i h1 h2 => rnE_in h1 h2
      refine xo_eb (endOfRun_v l3 (by omega) sb_lt) (xo_g l3.k (xo_wi (fun h4 e4 => ?_)))
      generalize rnE B 97 122 s = b at *
      have w4 : fW (tA K) noR h h4 := w3.trans (fw_i e4 ⟨rfl, by omega⟩)
      have l4 := l.ft w4
      have a3 := e_s e4
      have a22 : xi h4 K 2 = nI s := (e_o e4 (Or.inr (by decide))).trans a2
      refine xo_g l4.k (xo_g l4.k (xo_jn ?_))
      rw [a3, a22, pk_sub (by omega)]
      by_cases c3 : b ≤ s + 10
      · refine xo_f (by rw [li10, nI_ltP (by omega) (by omega)]; omega) (xo_g l4.k (xo_wi (fun h5 e5 => ?_)))
        have w5 : fW (tA K) noR h h5 := w4.trans (fw_i e5 ⟨rfl, by omega⟩)
        have l5 := l.ft w5
        have d2 : xi h5 K 2 = nI s := (e_o e5 (Or.inr (by decide))).trans a22
        have d3 : xi h5 K 3 = nI b := (e_o e5 (Or.inr (by decide))).trans a3
        have d4 := e_s e5
        refine xo_g l5.k (xo_jn (xo_t d4 (xo_g l5.k (xo_eb (packed_v l5 d2 d3 q2 c3 q q3) (xo_g l5.k (xo_wj (fun h6 e6 => ?_)))))))
        have w6 : fW (tA K) noR h h6 := w5.trans (fw_j e6 ⟨rfl, by omega⟩ (Or.inr l5.k))
        refine xo_v ⟨w6, ?_⟩
        rw [if_pos c3]
        exact ⟨⟨(e_ji e6).trans d2, (e_ji e6).trans d3, (e_ji e6).trans d4⟩, fun _ => e_j e6, fun z => (by cases z)⟩
      · refine xo_t (by rw [li10, nI_ltP (by omega) (by omega)]; omega) (xo_g l4.k (xo_wi (fun h5 e5 => ?_)))
        have w5 : fW (tA K) noR h h5 := w4.trans (fw_i e5 ⟨rfl, by omega⟩)
        have l5 := l.ft w5
        have d2 : xi h5 K 2 = nI s := (e_o e5 (Or.inr (by decide))).trans a22
        have d3 : xi h5 K 3 = nI b := (e_o e5 (Or.inr (by decide))).trans a3
        have d4 := e_s e5
        refine xo_g l5.k (xo_jn (xo_f (by rw [d4]; decide) (xo_g l5.k (xo_wj (fun h6 e6 => ?_)))))
        have w6 : fW (tA K) noR h h6 := w5.trans (fw_j e6 ⟨rfl, by omega⟩ (Or.inr l5.k))
        refine xo_v ⟨w6, ?_⟩
        rw [if_neg c3]
        exact ⟨⟨(e_ji e6).trans d2, (e_ji e6).trans d3, (e_ji e6).trans d4⟩, fun z => (by cases z), fun z => (by cases z)⟩
    · refine xo_eb (isBetween_v (c := false) ⟨fun z => absurd ((sb_lt _ b2).mp z) c2, fun z => by cases z⟩) (xo_t rfl ?_)
      rw [if_neg c2]
      by_cases c4 : 48 ≤ B.1 s ∧ B.1 s ≤ 57
      · refine xo_eb (isBetween_v (c := true) ⟨fun _ => rfl, fun _ => (sb_dgt _ b2).mpr c4⟩) (xo_f (by decide) (xo_g l3.k (xo_g l3.k ?_)))
        rw [if_pos c4, a2]
        have q := rnE_le (B := B) (lo := 48) (hi := 57) (i := s) (by omega)
        have q2 := rnE_pos (B := B) (i := s) c c4.1 c4.2
        have q3 : ∀ i, s ≤ i → i < rnE B 48 57 s → 48 ≤ B.1 i ∧ B.1 i ≤ 57 := fun i h1 h2 => rnE_in h1 h2
        refine xo_eb (endOfRun_v l3 (by omega) sb_dgt) (xo_g l3.k (xo_wi (fun h4 e4 => ?_)))
        generalize rnE B 48 57 s = b at *
        have w4 : fW (tA K) noR h h4 := w3.trans (fw_i e4 ⟨rfl, by omega⟩)
        have l4 := l.ft w4
        have a3 := e_s e4
        have a22 : xi h4 K 2 = nI s := (e_o e4 (Or.inr (by decide))).trans a2
        refine xo_g l4.k (xo_g l4.k (xo_jn ?_))
        rw [a3, a22, pk_sub (by omega)]
        by_cases c3 : b ≤ s + 2
        · refine xo_f (by rw [li2, nI_ltP (by omega) (by omega)]; omega) (xo_g l4.k (xo_wi (fun h5 e5 => ?_)))
          have w5 : fW (tA K) noR h h5 := w4.trans (fw_i e5 ⟨rfl, by omega⟩)
          have l5 := l.ft w5
          have d2 : xi h5 K 2 = nI s := (e_o e5 (Or.inr (by decide))).trans a22
          have d3 : xi h5 K 3 = nI b := (e_o e5 (Or.inr (by decide))).trans a3
          have d4 := e_s e5
          refine xo_g l5.k (xo_jn (xo_t d4 (xo_g l5.k (xo_eb (reck_v l5 d2 d3 q2 c3 q q3) (xo_g l5.k (xo_wi (fun h6 e6 => ?_)))))))
          have w6 : fW (tA K) noR h h6 := w5.trans (fw_i e6 ⟨rfl, by omega⟩)
          refine xo_v ⟨w6, ?_⟩
          rw [if_pos c3]
          exact ⟨⟨(e_o e6 (Or.inr (by decide))).trans d2, (e_o e6 (Or.inr (by decide))).trans d3, (e_o e6 (Or.inr (by decide))).trans d4⟩, fun z => (by cases z), fun _ => e_s e6⟩
        · refine xo_t (by rw [li2, nI_ltP (by omega) (by omega)]; omega) (xo_g l4.k (xo_wi (fun h5 e5 => ?_)))
          have w5 : fW (tA K) noR h h5 := w4.trans (fw_i e5 ⟨rfl, by omega⟩)
          have l5 := l.ft w5
          have d2 : xi h5 K 2 = nI s := (e_o e5 (Or.inr (by decide))).trans a22
          have d3 : xi h5 K 3 = nI b := (e_o e5 (Or.inr (by decide))).trans a3
          have d4 := e_s e5
          refine xo_g l5.k (xo_jn (xo_f (by rw [d4]; decide) (xo_g l5.k (xo_wi (fun h6 e6 => ?_)))))
          have w6 : fW (tA K) noR h h6 := w5.trans (fw_i e6 ⟨rfl, by omega⟩)
          refine xo_v ⟨w6, ?_⟩
          rw [if_neg c3]
          exact ⟨⟨(e_o e6 (Or.inr (by decide))).trans d2, (e_o e6 (Or.inr (by decide))).trans d3, (e_o e6 (Or.inr (by decide))).trans d4⟩, fun z => (by cases z), fun z => (by cases z)⟩
      · refine xo_eb (isBetween_v (c := false) ⟨fun z => absurd ((sb_dgt _ b2).mp z) c4, fun z => by cases z⟩) (xo_t rfl (xo_g l3.k (xo_g l3.k ?_)))
        rw [if_neg c4, a2, nI_s]
        refine xo_wi (fun h4 e4 => ?_)
        have w4 : fW (tA K) noR h h4 := w3.trans (fw_i e4 ⟨rfl, by omega⟩)
        have l4 := l.ft w4
        have a3 := e_s e4
        have a22 : xi h4 K 2 = nI s := (e_o e4 (Or.inr (by decide))).trans a2
        refine xo_jn ?_
        by_cases c5 : B.1 s = 59
        · refine xo_t ((sb_59 _ b2).mpr c5) (xo_g l4.k (xo_wi (fun h5 e5 => ?_)))
          refine xo_v ⟨w4.trans (fw_i e5 ⟨rfl, by omega⟩), ?_⟩
          rw [if_pos c5]
          exact ⟨⟨(e_o e5 (Or.inr (by decide))).trans a22, (e_o e5 (Or.inr (by decide))).trans a3, e_s e5⟩, fun z => (by cases z), fun z => (by cases z)⟩
        · refine xo_f (mt (sb_59 _ b2).mp c5) (xo_g l4.k (xo_wi (fun h5 e5 => ?_)))
          refine xo_v ⟨w4.trans (fw_i e5 ⟨rfl, by omega⟩), ?_⟩
          rw [if_neg c5]
          exact ⟨⟨(e_o e5 (Or.inr (by decide))).trans a22, (e_o e5 (Or.inr (by decide))).trans a3, e_s e5⟩, fun z => (by cases z), fun z => (by cases z)⟩
  · refine xo_f (by rw [nI_ltP (by omega) (by omega)]; exact c) (xo_g l3.k (xo_g l3.k ?_))
    rw [if_pos (show B.2 ≤ s by omega)]
    refine xo_wi (fun h4 e4 => xo_g (by rw [e4]; exact l3.k) (xo_wi (fun h5 e5 => ?_)))
    refine xo_v ⟨(w3.trans (fw_i e4 ⟨rfl, by omega⟩)).trans (fw_i e5 ⟨rfl, by omega⟩), ⟨?_, ?_, ?_⟩, fun z => (by cases z), fun z => (by cases z)⟩
    · exact ((e_o e5 (Or.inr (by decide))).trans (e_o e4 (Or.inr (by decide)))).trans a2
    · exact (e_o e5 (Or.inr (by decide))).trans (e_s e4)
    · exact e_s e5
/-- the next token -/
theorem adv_o (l : KL h K X B) (w : WK B t) (kt : KT h K B t) : xo (FX6_advance E K h) (fun _ h' => fW (tA K) noR h h' ∧ KT h' K B (nx B t)) := advance_o l kt.1.2.1 w.1.2
/-- does the token spell one of the words -/
theorem spells_v (l : KL h K X B) (w : WK B t) (kt : KT h K B t) {c : Nat} (h1 : 1 ≤ c) (h2 : c ≤ 9) : FX6_spells E K c h = xv (bI (isW B t c)) h := by
  have l9 := l.2.2.1.1
  obtain ⟨⟨k1, k2, k3⟩, -⟩ := kt
  have hc : c < nJS := by unfold nJS; omega
  obtain ⟨⟨j1, j2⟩, -⟩ := sch_all c hc
  have hb : ∀ c, c < 10 → 1 ≤ c → ∀ k, k < lenJS.getD c 0 → sch c k = nI ((wJS c).getD k 0) ∧ (wJS c).getD k 0 < 128 := by decide +kernel
  have hb := fun c (q1 : 1 ≤ c) (q2 : c ≤ 9) => hb c (by omega) q1
  have hl : ∀ c, c < 10 → 1 ≤ c → (wJS c).length = lenJS.getD c 0 := by decide +kernel
  have hl := fun c (q1 : 1 ≤ c) (q2 : c ≤ 9) => hl c (by omega) q1
  have e5 : FJ0_length c h = xv (nI (lenJS.getD c 0)) h := by unfold FJ0_length; rw [xg_t hc]; rfl
  unfold FX6_spells
  by_cases q : tkK t = 1
  · obtain ⟨⟨w1, w2⟩, w3⟩ := w.2.1 q
    have w4 := w.1.2
    by_cases q2 : tkB t - tkA t = lenJS.getD c 0
    · let P : Nat → Bool := fun i => decide (¬ B.1 (tkA t + i) = (wJS c).getD i 0)
      have e : isW B t c = !anyB (lenJS.getD c 0) P := by
        cases e : anyB (lenJS.getD c 0) P
        · have z := anyB_f.mp e
          show decide _ = true
          rw [decide_eq_true_eq]
          refine ⟨q, List.ext_getElem (by rw [wdT_len, hl c h1 h2, q2]) (fun i z1 z2 => ?_)⟩
          rw [hl c h1 h2] at z2
          have z3 := of_decide_eq_false (z i z2)
          have z4 := Decidable.not_not.mp z3
          rw [← gD_lt z1, ← gD_lt (by rw [hl c h1 h2]; exact z2), wdT_get, if_pos (by omega)]
          exact z4
        · obtain ⟨i, z1, z2⟩ := anyB_iff.mp e
          have z2 := of_decide_eq_true z2
          show decide _ = false
          rw [decide_eq_false_iff_not]
          rintro ⟨-, z3⟩
          apply z2
          rw [← z3, wdT_get, if_pos (by omega)]
      (try dsimp only); (rw [xg_t (l.k), xjn_d, xjn_d, k3, if_pos (show nI (tkK t) = (1 : Int32) by rw [q]; rfl), xg_t (l.k), xg_t (l.k), xg_t (hc), xb_eq (e5)])
      rw [k2, k1, pk_sub (by omega), if_pos (show nI (tkB t - tkA t) = nI (lenJS.getD c 0) by rw [q2])]
      rw [e]
      have hL : lenJS.getD c 0 < 9000 := by omega
      have key := xlp_flag (α := Int32) (σ := Int32 × Int32) (body := fun again32 (s32 : Int32 × Int32) h3 => xjn (fun  (h4 : XH) => xg ((s32.1 : Int32) = 0 ∨ (s32.1 : Int32) = 1) <| xv s32.1 h4) fun (j74 : XH → XP Int32) => if (s32.1 : Int32) = 0 then (j74 h3) else (xg (c < nJS) <| xb (FJ0_length c  h3) fun v5 h6 => if (v5 : Int32) ≤ s32.2 then (j74 h6) else (xg (xk h6 K = 7) <| xg (xk h6 K = 7) <| xb (FX6_byteAt E K ((xi h6 K 2) + s32.2) h6) fun v7 h8 => xg (c < nJS) <| xb (FJ0_charAt c s32.2 h8) fun v9 h10 => xjn (fun (v11 : Int32) (h12 : XH) => again32 (v11, (s32.2 + 1)) h12) fun (j67 : Int32 → XH → XP Int32) => if (v7 : Int32) = v9 then (j67 1 h10) else (j67 0 h10)))) (fun i => ((0 : Int32), nI i)) (fun i => ((1 : Int32), nI i)) h (lenJS.getD c 0) P (R1 := xv 0 h) (R2 := xv 1 h) hL (fun i hi ag => ?_) (fun i hi ag => ?_) (fun ag => ?_)
      · refine key.trans ?_
        cases anyB (lenJS.getD c 0) P <;> rfl
      · have c2 : ¬ nI (lenJS.getD c 0) ≤ nI i := by rw [nI_leP (by omega) (by omega)]; omega
        have e6 : FJ0_charAt c (nI i) h = xv (sch c i) h := by unfold FJ0_charAt; rw [xg_t ⟨hc, xin_nI hi (by omega)⟩, xz_nI (by omega)]
        obtain ⟨b1, b2⟩ := hb c h1 h2 i hi
        (try dsimp only); (rw [xjn_d, if_neg (show ¬ (1 : Int32) = 0 by decide), xg_t (hc), xb_eq (e5), if_neg c2, xg_t (l.k), xg_t (l.k), k1, nI_a, xb_eq (byteAt_v l (show tkA t + i < 2 ^ 31 by omega)), xg_t (hc), xb_eq (e6), xjn_d, if_pos (show tkA t + i < B.2 by omega), b1, nI_s])
        have b3 := (l.2.2.2 (tkA t + i) (by omega)).2
        show _ = if decide (¬ B.1 (tkA t + i) = (wJS c).getD i 0) = true then ag (0, nI (i + 1)) h else ag (1, nI (i + 1)) h
        by_cases c4 : B.1 (tkA t + i) = (wJS c).getD i 0
        · rw [if_pos ((sb_le _ b3 _ b2).mpr c4), if_neg (by simp [c4])]
        · rw [if_neg (mt (sb_le _ b3 _ b2).mp c4), if_pos (by simp only [decide_eq_true_eq]; exact c4)]
      · (try dsimp only); (rw [xjn_d, if_pos (show (0 : Int32) = 0 from rfl)])
        exact xg_t (show (0 : Int32) = 0 ∨ (0 : Int32) = 1 from Or.inl rfl)
      · (try dsimp only); (rw [xjn_d, if_neg (show ¬ (1 : Int32) = 0 by decide), xg_t (hc), xb_eq (e5), if_pos (Int32.le_refl _)])
        exact xg_t (Or.inr rfl)
    · have e : isW B t c = false := by
        show decide _ = false
        rw [decide_eq_false_iff_not]
        rintro ⟨-, z⟩
        have := congrArg List.length z
        rw [wdT_len, hl c h1 h2] at this
        exact q2 this
      (try dsimp only); (rw [xg_t (l.k), xjn_d, xjn_d, k3, if_pos (show nI (tkK t) = (1 : Int32) by rw [q]; rfl), xg_t (l.k), xg_t (l.k), xg_t (hc), xb_eq (e5)])
      rw [k2, k1, pk_sub (by omega), if_neg (show ¬ nI (tkB t - tkA t) = nI (lenJS.getD c 0) by rw [nI_eqP (by omega) (by omega)]; exact q2), e]
      exact xlp_all (R := xv 0 h) (fun _ => ((0 : Int32), (0 : Int32))) (fun _ => h) 0 (by omega) (fun i hi => by omega) (fun ag => by
        (try dsimp only); (rw [xjn_d, if_pos (show (0 : Int32) = 0 from rfl)])
        exact xg_t (show (0 : Int32) = 0 ∨ (0 : Int32) = 1 from Or.inl rfl))
  · have e : isW B t c = false := by
      show decide _ = false
      rw [decide_eq_false_iff_not]
      rintro ⟨z, -⟩
      exact q z
    have k4 := w.2.2.2.2
    (try dsimp only); (rw [xg_t (l.k), xjn_d, xjn_d, k3, if_neg (show ¬ nI (tkK t) = (1 : Int32) by rw [li1, nI_eqP (by omega) (by omega)]; exact q), e])
    exact xlp_all (R := xv 0 h) (fun _ => ((0 : Int32), (0 : Int32))) (fun _ => h) 0 (by omega) (fun i hi => by omega) (fun ag => by
      (try dsimp only); (rw [xjn_d, if_pos (show (0 : Int32) = 0 from rfl)])
      exact xg_t (show (0 : Int32) = 0 ∨ (0 : Int32) = 1 from Or.inl rfl))
end KLS
