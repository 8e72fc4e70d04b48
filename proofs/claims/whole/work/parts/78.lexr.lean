/-! The reference's tokens. -/
set_option linter.unusedVariables false
/-- the reference over the buffer -/
def RLy (h : XH) (Y : Nat) (B : BF) : Prop := YL h Y ∧ (xi h Y 20 = nI B.2 ∧ B.2 ≤ 900) ∧ ∀ i, i < B.2 → xi h (Y + 11) i = nI (B.1 i) ∧ B.1 i < 256
def RTk (h : XH) (Y : Nat) (B : BF) (t : TK) : Prop := (xi h Y 22 = nI (tkA t) ∧ xi h Y 21 = nI (tkB t) ∧ xi h Y 23 = nI (tkK t)) ∧ (tkK t = 2 → xi h Y 24 = nI (vlT B t))
def tY (Y : Nat) : Nat → Nat → Prop := fun a j => a = Y ∧ 21 ≤ j ∧ j ≤ 24
def oY (Y : Nat) : Nat → Nat → Prop := fun a j => a = Y ∧ 21 ≤ j ∧ j ≤ 26
section RLS
variable {E : XG} {h h' : XH} {Y p i : Nat} {B : BF} {t : TK} {A : Nat → Nat → Prop}
theorem YL_fw (y : YL h Y) (w : fW A noR h h') : YL h' Y := ⟨(w.k _).trans y.1, fun q hq => ⟨(w.rn _ _).trans (y.2 q hq).1, (w.k _).trans (y.2 q hq).2.1, (w.n _).trans (y.2 q hq).2.2⟩⟩
theorem RLy_fw (l : RLy h Y B) (w : fW A noR h h') (hA : ∀ a j, A a j → (¬ a = Y ∨ ¬ j = 20) ∧ ¬ a = Y + 11) : RLy h' Y B := ⟨YL_fw l.1 w, ⟨(w.i (fun q => by have := hA _ _ q; omega)).trans l.2.1.1, l.2.1.2⟩, fun i hi => ⟨(w.i (fun q => (hA _ _ q).2 rfl)).trans (l.2.2 i hi).1, (l.2.2 i hi).2⟩⟩
theorem RLy_o (l : RLy h Y B) (w : fW (oY Y) noR h h') : RLy h' Y B := RLy_fw l w (fun a j q => by unfold oY at q; omega)
theorem fw_to (w : fW (tY Y) noR h h') : fW (oY Y) noR h h' := w.wide (fun a j q => ⟨q.1, q.2.1, by have := q.2.2; omega⟩) (fun a j q => q)
theorem RLy_t (l : RLy h Y B) (w : fW (tY Y) noR h h') : RLy h' Y B := RLy_o l (fw_to w)
theorem seen_v (l : RLy h Y B) (hi : i < 2 ^ 31) : FX9_seen E Y (nI i) h = xv (if i < B.2 then nI (B.1 i) else -1) h := by
  obtain ⟨y, ⟨l1, l2⟩, l3⟩ := l
  unfold FX9_seen
  by_cases c : i < B.2
  · have c2 : ¬ nI B.2 ≤ nI i := by rw [nI_leP (by omega) (by omega)]; omega
    have g : xk h (Y + 11) = 12 ∧ xin (nI i) (xn h (Y + 11)) := y.g11 (by omega)
    (try dsimp only); (rw [xg_t (y.1), xjn_d, l1, if_neg c2, xg_t (y.1), xnn_e (y.r11), xg_t (g), xz_nI hi, (l3 i c).1, if_pos c])
  · have c2 : nI B.2 ≤ nI i := by rw [nI_leP (by omega) (by omega)]; omega
    (try dsimp only); (rw [xg_t (y.1), xjn_d, l1, if_pos c2, if_neg c])
theorem isLetter_v {x : Int32} {c : Bool} (hh : (¬ x < 97 ∧ ¬ 122 < x) ↔ c = true) : FX9_isLetter E x h = xv (bI c) h := by
  unfold FX9_isLetter
  rw [xjn_d, xjn_d]
  cases c
  · by_cases c1 : x < 97
    · (try dsimp only); (rw [if_pos c1])
      exact xg_t (show (0 : Int32) = 0 ∨ (0 : Int32) = 1 from Or.inl rfl)
    · have c2 : 122 < x := Decidable.byContradiction (fun z => by cases hh.mp ⟨c1, z⟩)
      (try dsimp only); (rw [if_neg c1, if_pos c2])
      exact xg_t (show (0 : Int32) = 0 ∨ (0 : Int32) = 1 from Or.inl rfl)
  · obtain ⟨c1, c2⟩ := hh.mpr rfl
    (try dsimp only); (rw [if_neg c1, if_neg c2])
    exact xg_t (show (1 : Int32) = 0 ∨ (1 : Int32) = 1 from Or.inr rfl)
theorem isDigit_v {x : Int32} {c : Bool} (hh : (¬ x < 48 ∧ ¬ 57 < x) ↔ c = true) : FX9_isDigit E x h = xv (bI c) h := by
  unfold FX9_isDigit
  rw [xjn_d, xjn_d]
  cases c
  · by_cases c1 : x < 48
    · (try dsimp only); (rw [if_pos c1])
      exact xg_t (show (0 : Int32) = 0 ∨ (0 : Int32) = 1 from Or.inl rfl)
    · have c2 : 57 < x := Decidable.byContradiction (fun z => by cases hh.mp ⟨c1, z⟩)
      (try dsimp only); (rw [if_neg c1, if_pos c2])
      exact xg_t (show (0 : Int32) = 0 ∨ (0 : Int32) = 1 from Or.inl rfl)
  · obtain ⟨c1, c2⟩ := hh.mpr rfl
    (try dsimp only); (rw [if_neg c1, if_neg c2])
    exact xg_t (show (1 : Int32) = 0 ∨ (1 : Int32) = 1 from Or.inr rfl)
/-- what is seen at i is a byte from lo to hi -/
def snB (B : BF) (lo hi i : Nat) : Bool := decide (i < B.2) && (decide (lo ≤ B.1 i) && decide (B.1 i ≤ hi))
theorem sn_lt {b : Nat} (hb : b < 256) : (¬ nI b < 97 ∧ ¬ 122 < nI b) ↔ (decide (97 ≤ b) && decide (b ≤ 122)) = true := by
  rw [show (97 : Int32) = nI 97 from rfl, show (122 : Int32) = nI 122 from rfl, nI_ltP (by omega) (by omega), nI_ltP (by omega) (by omega), Bool.and_eq_true, decide_eq_true_eq, decide_eq_true_eq]
  omega
theorem sn_dg {b : Nat} (hb : b < 256) : (¬ nI b < 48 ∧ ¬ 57 < nI b) ↔ (decide (48 ≤ b) && decide (b ≤ 57)) = true := by
  rw [show (48 : Int32) = nI 48 from rfl, show (57 : Int32) = nI 57 from rfl, nI_ltP (by omega) (by omega), nI_ltP (by omega) (by omega), Bool.and_eq_true, decide_eq_true_eq, decide_eq_true_eq]
  omega
theorem seenL_v (l : RLy h Y B) (hi : i < 2 ^ 31) : FX9_isLetter E (if i < B.2 then nI (B.1 i) else -1) h = xv (bI (snB B 97 122 i)) h := by
  unfold snB
  by_cases c : i < B.2
  · rw [if_pos c, decide_eq_true c, Bool.true_and]
    exact isLetter_v (sn_lt (l.2.2 i c).2)
  · rw [if_neg c, decide_eq_false c, Bool.false_and]
    exact isLetter_v (c := false) (by decide)
theorem seenD_v (l : RLy h Y B) (hi : i < 2 ^ 31) : FX9_isDigit E (if i < B.2 then nI (B.1 i) else -1) h = xv (bI (snB B 48 57 i)) h := by
  unfold snB
  by_cases c : i < B.2
  · rw [if_pos c, decide_eq_true c, Bool.true_and]
    exact isDigit_v (sn_dg (l.2.2 i c).2)
  · rw [if_neg c, decide_eq_false c, Bool.false_and]
    exact isDigit_v (c := false) (by decide)
theorem snB_in {lo hi s k : Nat} (hs : s ≤ B.2) (h1 : s ≤ k) (h2 : k < rnE B lo hi s) : snB B lo hi k = true := by
  have q := rnE_in h1 h2
  have le := rnE_le (lo := lo) (hi := hi) hs
  unfold snB
  rw [decide_eq_true (show k < B.2 by omega), decide_eq_true q.1, decide_eq_true q.2]
  rfl
theorem snB_end {lo hi s : Nat} : snB B lo hi (rnE B lo hi s) = false := by
  unfold snB
  by_cases c : rnE B lo hi s < B.2
  · have q := rnE_end c
    rw [decide_eq_true c, Bool.true_and, Bool.and_eq_false_iff, decide_eq_false_iff_not, decide_eq_false_iff_not]
    omega
  · rw [decide_eq_false c, Bool.false_and]
theorem nI_pad : ∀ {b : Nat}, b < 256 → ¬ nI b = -1 := by
  have : ∀ b, b < 256 → ¬ nI b = -1 := by decide +kernel
  exact fun {b} hb => this b hb
theorem token_o (l : RLy h Y B) (ht : xi h Y 21 = nI p) (hp : p ≤ B.2) : xo (FX9_token E Y h) (fun _ h' => fW (tY Y) noR h h' ∧ RTk h' Y B (tkF B p)) := by
  have l9 := l.2.1.2
  have hs := rnE_le (lo := 32) (hi := 32) hp
  have hge := rnE_ge B 32 32 p
  unfold FX9_token
  refine xlp_inv (Po := fun m => xo m _) (fun i s h' => fW (tY Y) noR h h' ∧ xi h' Y 21 = nI (p + i)) (rnE B 32 32 p - p) (by omega) (fun i s h1 ag hi I again => ?_) ⟨fW.refl _ _ _, ht⟩
  obtain ⟨w1, a1⟩ := I
  have l1 := RLy_t l w1
  refine xo_g l1.1.1 (xo_g l1.1.1 ?_)
  rw [a1]
  refine xo_eb (seen_v l1 (by omega)) ?_
  by_cases e : i < rnE B 32 32 p - p
  · have q := rnE_in (B := B) (lo := 32) (hi := 32) (i := p) (j := p + i) (by omega) (by omega)
    refine xo_t ?_ (xo_g l1.1.1 (xo_g l1.1.1 ?_))
    · rw [if_pos (by omega), show B.1 (p + i) = 32 by omega]; rfl
    · rw [a1, nI_s]
      exact xo_wi (fun h2 e2 => again e _ _ ⟨w1.trans (fw_i e2 ⟨rfl, by omega, by omega⟩), e_s e2⟩)
  · have ei : p + i = rnE B 32 32 p := by omega
    rw [ei] at a1 ⊢
    unfold tkF
    have hsp : ∀ (c : rnE B 32 32 p < B.2), ¬ B.1 (rnE B 32 32 p) = 32 := fun c z => rnE_end c (by omega)
    generalize rnE B 32 32 p = s at *
    refine xo_f ?_ (xo_g l1.1.1 (xo_g l1.1.1 ?_))
    · by_cases c : s < B.2
      · rw [if_pos c, show (32 : Int32) = nI 32 from rfl, nI_eqP (by have := (l1.2.2 s c).2; omega) (by omega)]
        exact hsp c
      · rw [if_neg c]; decide
    rw [a1]
    refine xo_wi (fun h2 e2 => ?_)
    have w2 : fW (tY Y) noR h h2 := w1.trans (fw_i e2 ⟨rfl, by omega, by omega⟩)
    have l2 := RLy_t l w2
    have a2 : xi h2 Y 21 = nI s := (e_o e2 (Or.inr (by decide))).trans a1
    have b2 : xi h2 Y 22 = nI s := e_s e2
    refine xo_g l2.1.1 (xo_g l2.1.1 ?_)
    rw [a2]
    refine xo_eb (seen_v l2 (by omega)) (xo_jn ?_)
    unfold tkG
    by_cases c : s < B.2
    · obtain ⟨-, c256⟩ := l2.2.2 s c
      rw [if_neg (show ¬ B.2 ≤ s by omega)]
      refine xo_f (by rw [if_pos c]; exact nI_pad c256) (xo_eb (seenL_v l2 (by omega)) ?_)
      by_cases c2 : 97 ≤ B.1 s ∧ B.1 s ≤ 122
      · have e1 : snB B 97 122 s = true := by unfold snB; rw [decide_eq_true c, decide_eq_true c2.1, decide_eq_true c2.2]; rfl
        rw [e1, if_pos c2]
        refine xo_f (by decide) ?_
        have q := rnE_le (B := B) (lo := 97) (hi := 122) (i := s) (by omega)
        have q1 := rnE_ge B 97 122 s
        refine xlp_inv (Po := fun m => xo m _) (fun k s' h' => fW (tY Y) noR h h' ∧ xi h' Y 21 = nI (s + k) ∧ xi h' Y 22 = nI s) (rnE B 97 122 s - s) (by omega) (fun k s' h3 ag2 hk J again2 => ?_) ⟨w2, a2, b2⟩
        obtain ⟨w3, a3, b3⟩ := J
        have l3 := RLy_t l w3
        refine xo_g l3.1.1 (xo_g l3.1.1 ?_)
        rw [a3]
        refine xo_eb (seen_v l3 (by omega)) (xo_eb (seenL_v l3 (by omega)) ?_)
        by_cases e3 : k < rnE B 97 122 s - s
        · rw [snB_in (show s ≤ B.2 by omega) (show s ≤ s + k by omega) (by omega)]
          refine xo_f (by decide) (xo_g l3.1.1 (xo_g l3.1.1 ?_))
          rw [a3, nI_s]
          exact xo_wi (fun h4 e4 => again2 e3 _ _ ⟨w3.trans (fw_i e4 ⟨rfl, by omega, by omega⟩), e_s e4, (e_o e4 (Or.inr (by decide))).trans b3⟩)
        · have ek : s + k = rnE B 97 122 s := by omega
          rw [ek] at a3 ⊢
          rw [snB_end]
          generalize rnE B 97 122 s = b at *
          refine xo_t rfl (xo_g l3.1.1 (xo_g l3.1.1 (xo_jn ?_)))
          rw [a3, b3, pk_sub (by omega)]
          by_cases c3 : b ≤ s + 10
          · refine xo_t (by rw [li10, nI_leP (by omega) (by omega)]; omega) (xo_g l3.1.1 (xo_wi (fun h4 e4 => xo_v ⟨w3.trans (fw_i e4 ⟨rfl, by omega, by omega⟩), ?_⟩)))
            rw [if_pos c3]
            exact ⟨⟨(e_o e4 (Or.inr (by decide))).trans b3, (e_o e4 (Or.inr (by decide))).trans a3, e_s e4⟩, fun z => (by cases z)⟩
          · refine xo_f (by rw [li10, nI_leP (by omega) (by omega)]; omega) (xo_g l3.1.1 (xo_wi (fun h4 e4 => xo_v ⟨w3.trans (fw_i e4 ⟨rfl, by omega, by omega⟩), ?_⟩)))
            rw [if_neg c3]
            exact ⟨⟨(e_o e4 (Or.inr (by decide))).trans b3, (e_o e4 (Or.inr (by decide))).trans a3, e_s e4⟩, fun z => (by cases z)⟩
      · have e1 : snB B 97 122 s = false := by
          unfold snB
          rw [decide_eq_true c, Bool.true_and, Bool.and_eq_false_iff, decide_eq_false_iff_not, decide_eq_false_iff_not]
          omega
        rw [e1, if_neg c2]
        refine xo_t rfl (xo_eb (seenD_v l2 (by omega)) ?_)
        by_cases c4 : 48 ≤ B.1 s ∧ B.1 s ≤ 57
        · have e1 : snB B 48 57 s = true := by unfold snB; rw [decide_eq_true c, decide_eq_true c4.1, decide_eq_true c4.2]; rfl
          rw [e1, if_pos c4]
          refine xo_f (by decide) (xo_g l2.1.1 (xo_wi (fun h3 e3 => ?_)))
          have w3 : fW (tY Y) noR h h3 := w2.trans (fw_i e3 ⟨rfl, by omega, by omega⟩)
          have q := rnE_le (B := B) (lo := 48) (hi := 57) (i := s) (by omega)
          have q1 := rnE_ge B 48 57 s
          have q2 := rnE_pos (B := B) (i := s) c c4.1 c4.2
          refine xlp_inv (Po := fun m => xo m _) (fun k s' h' => fW (tY Y) noR h h' ∧ xi h' Y 21 = nI (s + k) ∧ xi h' Y 22 = nI s ∧ xi h' Y 24 = nI (if k = 0 then 0 else if k = 1 then B.1 s - 48 else if k = 2 then 10 * (B.1 s - 48) + (B.1 (s + 1) - 48) else 0)) (rnE B 48 57 s - s) (by omega) (fun k s' h4 ag2 hk J again2 => ?_) ⟨w3, (e_o e3 (Or.inr (by decide))).trans a2, (e_o e3 (Or.inr (by decide))).trans b2, e_s e3⟩
          obtain ⟨w4, a4, b4, d4⟩ := J
          have l4 := RLy_t l w4
          refine xo_g l4.1.1 (xo_g l4.1.1 ?_)
          rw [a4]
          refine xo_eb (seen_v l4 (by omega)) (xo_eb (seenD_v l4 (by omega)) ?_)
          by_cases e4 : k < rnE B 48 57 s - s
          · rw [snB_in (show s ≤ B.2 by omega) (show s ≤ s + k by omega) (by omega)]
            have qd := rnE_in (B := B) (lo := 48) (hi := 57) (i := s) (j := s + k) (by omega) (by omega)
            refine xo_f (by decide) (xo_g l4.1.1 (xo_g l4.1.1 ?_))
            refine xo_jp (fun v h5 => h5 = h4 ∧ v = nI (if k + 1 = 0 then 0 else if k + 1 = 1 then B.1 s - 48 else if k + 1 = 2 then 10 * (B.1 s - 48) + (B.1 (s + 1) - 48) else 0)) (fun v h5 z => ?_) (fun j jh => ?_)
            · obtain ⟨rfl, rfl⟩ := z
              refine xo_g l4.1.1 (xo_wi (fun h6 e6 => ?_))
              have w6 : fW (tY Y) noR h h6 := w4.trans (fw_i e6 ⟨rfl, by omega, by omega⟩)
              have a6 : xi h6 Y 21 = nI (s + k) := (e_o e6 (Or.inr (by decide))).trans a4
              refine xo_g (RLy_t l w6).1.1 (xo_g (RLy_t l w6).1.1 ?_)
              rw [a6, nI_s]
              exact xo_wi (fun h7 e7 => again2 e4 _ _ ⟨w6.trans (fw_i e7 ⟨rfl, by omega, by omega⟩), e_s e7, (e_o e7 (Or.inr (by decide))).trans ((e_o e6 (Or.inr (by decide))).trans b4), (e_o e7 (Or.inr (by decide))).trans (e_s e6)⟩)
            · rw [a4, b4, pk_sub (by omega), show s + k - s = k by omega]
              by_cases k2 : 2 ≤ k
              · refine xo_t (by rw [li2, nI_leP (by omega) (by omega)]; exact k2) (jh _ _ ⟨rfl, ?_⟩)
                rw [if_neg (by omega), if_neg (by omega), if_neg (by omega)]
                rfl
              · refine xo_f (by rw [li2, nI_leP (by omega) (by omega)]; exact k2) (xo_g l4.1.1 (xo_g l4.1.1 (xo_g l4.1.1 ?_)))
                refine xo_eb (seen_v l4 (by omega)) (jh _ _ ⟨rfl, ?_⟩)
                rw [if_pos (by omega), d4, li10, nI_m, nI_a, show (48 : Int32) = nI 48 from rfl, pk_sub (by omega)]
                have hk2 : k = 0 ∨ k = 1 := by omega
                rcases hk2 with rfl | rfl
                · rw [if_pos rfl, if_neg (by omega), if_pos rfl, Nat.mul_zero, Nat.zero_add, Nat.add_zero]
                · rw [if_neg (by omega), if_pos rfl, if_neg (by omega), if_neg (by omega), if_pos rfl]
                  congr 1
                  have := rnE_in (B := B) (lo := 48) (hi := 57) (i := s) (j := s + 1) (by omega) (by omega)
                  omega
          · have ek : s + k = rnE B 48 57 s := by omega
            rw [ek] at a4 ⊢
            rw [snB_end]
            generalize rnE B 48 57 s = b at *
            refine xo_t rfl (xo_g l4.1.1 (xo_g l4.1.1 (xo_jn ?_)))
            rw [a4, b4, pk_sub (by omega)]
            by_cases c3 : b ≤ s + 2
            · refine xo_t (by rw [li2, nI_leP (by omega) (by omega)]; omega) (xo_g l4.1.1 (xo_wi (fun h5 e5 => xo_v ⟨w4.trans (fw_i e5 ⟨rfl, by omega, by omega⟩), ?_⟩)))
              rw [if_pos c3]
              refine ⟨⟨(e_o e5 (Or.inr (by decide))).trans b4, (e_o e5 (Or.inr (by decide))).trans a4, e_s e5⟩, fun _ => ?_⟩
              rw [e_o e5 (Or.inr (by decide)), d4]
              show _ = nI (if b = s + 1 then B.1 s - 48 else 10 * (B.1 s - 48) + (B.1 (s + 1) - 48))
              by_cases cb : b = s + 1
              · rw [if_neg (by omega), if_pos (by omega), if_pos cb]
              · rw [if_neg (by omega), if_neg (by omega), if_pos (by omega), if_neg cb]
            · refine xo_f (by rw [li2, nI_leP (by omega) (by omega)]; omega) (xo_g l4.1.1 (xo_wi (fun h5 e5 => xo_v ⟨w4.trans (fw_i e5 ⟨rfl, by omega, by omega⟩), ?_⟩)))
              rw [if_neg c3]
              exact ⟨⟨(e_o e5 (Or.inr (by decide))).trans b4, (e_o e5 (Or.inr (by decide))).trans a4, e_s e5⟩, fun z => (by cases z)⟩
        · have e1 : snB B 48 57 s = false := by
            unfold snB
            rw [decide_eq_true c, Bool.true_and, Bool.and_eq_false_iff, decide_eq_false_iff_not, decide_eq_false_iff_not]
            omega
          rw [e1, if_neg c4]
          refine xo_t rfl (xo_jn ?_)
          have key : ∀ (x : Nat), x < 5 → (if B.1 s = 59 then 3 else 4) = x → ¬ x = 2 → xo (xg (xk h2 Y = 10) <| xlt (yi h2 Y 23 (nI x)) fun h14 => xg (xk h14 Y = 10) <| xg (xk h14 Y = 10) <| xlt (yi h14 Y 21 ((xi h14 Y 21) + 1)) fun h15 => xv () h15) (fun _ h' => fW (tY Y) noR h h' ∧ RTk h' Y B (s, s + 1, if B.1 s = 59 then 3 else 4)) := fun x x5 hx hx2 => by
            refine xo_g l2.1.1 (xo_wi (fun h3 e3 => ?_))
            have w3 : fW (tY Y) noR h h3 := w2.trans (fw_i e3 ⟨rfl, by omega, by omega⟩)
            have a3 : xi h3 Y 21 = nI s := (e_o e3 (Or.inr (by decide))).trans a2
            refine xo_g (RLy_t l w3).1.1 (xo_g (RLy_t l w3).1.1 ?_)
            rw [a3, nI_s, hx]
            exact xo_wi (fun h4 e4 => xo_v ⟨w3.trans (fw_i e4 ⟨rfl, by omega, by omega⟩), ⟨(e_o e4 (Or.inr (by decide))).trans ((e_o e3 (Or.inr (by decide))).trans b2), e_s e4, (e_o e4 (Or.inr (by decide))).trans (e_s e3)⟩, fun z => absurd z hx2⟩)
          by_cases c5 : B.1 s = 59
          · exact xo_t (by rw [if_pos c, c5]; rfl) (key 3 (by omega) (if_pos c5) (by omega))
          · exact xo_f (by rw [if_pos c, show (59 : Int32) = nI 59 from rfl, nI_eqP (by omega) (by omega)]; exact c5) (key 4 (by omega) (if_neg c5) (by omega))
    · rw [if_pos (show B.2 ≤ s by omega)]
      refine xo_t (if_neg c) (xo_g l2.1.1 (xo_wi (fun h3 e3 => xo_v ⟨w2.trans (fw_i e3 ⟨rfl, by omega, by omega⟩), ⟨(e_o e3 (Or.inr (by decide))).trans b2, (e_o e3 (Or.inr (by decide))).trans a2, e_s e3⟩, fun z => (by cases z)⟩)))
/-- is it one of the words (no error so far) -/
theorem isWord_v (l : RLy h Y B) (w : WK B t) (kt : RTk h Y B t) (e0 : xi h Y 25 = 0) {c : Nat} (h1 : 1 ≤ c) (h2 : c ≤ 9) : FX9_isWord E Y (c + 13) h = xv (bI (isW B t c)) h := by
  have l9 := l.2.1.2
  obtain ⟨⟨k1, k2, k3⟩, -⟩ := kt
  have hc : c + 13 < nJS := by unfold nJS; omega
  obtain ⟨⟨j1, j2⟩, -⟩ := sch_all (c + 13) hc
  have hb : ∀ c, c < 10 → 1 ≤ c → ∀ k, k < lenJS.getD (c + 13) 0 → sch (c + 13) k = nI ((wJS c).getD k 0) ∧ (wJS c).getD k 0 < 128 := by decide +kernel
  have hl : ∀ c, c < 10 → 1 ≤ c → (wJS c).length = lenJS.getD (c + 13) 0 := by decide +kernel
  have hb := hb c (by omega) h1
  have hl := hl c (by omega) h1
  have e5 : FJ0_length (c + 13) h = xv (nI (lenJS.getD (c + 13) 0)) h := by unfold FJ0_length; rw [xg_t hc]; rfl
  have F : ∀ R : XP Int32, xg ((0 : Int32) = 0 ∨ (0 : Int32) = 1) R = R := fun R => xg_t (Or.inl rfl)
  have k4 := w.2.2.2.2
  unfold FX9_isWord
  by_cases q : tkK t = 1
  · obtain ⟨⟨w1, w2⟩, w3⟩ := w.2.1 q
    have w4 := w.1.2
    by_cases q2 : tkB t - tkA t = lenJS.getD (c + 13) 0
    · let P : Nat → Bool := fun i => decide (¬ B.1 (tkA t + i) = (wJS c).getD i 0)
      have e : isW B t c = !anyB (lenJS.getD (c + 13) 0) P := by
        cases e : anyB (lenJS.getD (c + 13) 0) P
        · have z := anyB_f.mp e
          show decide _ = true
          rw [decide_eq_true_eq]
          refine ⟨q, List.ext_getElem (by rw [wdT_len, hl, q2]) (fun i z1 z2 => ?_)⟩
          rw [hl] at z2
          have z3 := of_decide_eq_false (z i z2)
          have z4 := Decidable.not_not.mp z3
          rw [← gD_lt z1, ← gD_lt (by rw [hl]; exact z2), wdT_get, if_pos (by omega)]
          exact z4
        · obtain ⟨i, z1, z2⟩ := anyB_iff.mp e
          have z2 := of_decide_eq_true z2
          show decide _ = false
          rw [decide_eq_false_iff_not]
          rintro ⟨-, z3⟩
          apply z2
          rw [← z3, wdT_get, if_pos (by omega)]
      (try dsimp only); (rw [xg_t (l.1.1), xjn_d, if_pos e0, xg_t (l.1.1), k3, if_pos (show nI (tkK t) = (1 : Int32) by rw [q]; rfl), xg_t (l.1.1), xg_t (l.1.1), xg_t (hc), xb_eq (e5)])
      rw [k2, k1, pk_sub (by omega), if_pos (show nI (tkB t - tkA t) = nI (lenJS.getD (c + 13) 0) by rw [q2]), e]
      have key := xlp_any (α := Int32) (σ := Int32) (body := fun again35 (s35 : Int32) h4 => xg (c + 13 < nJS) <| xb (FJ0_length (c + 13)  h4) fun v5 h6 => if (v5 : Int32) ≤ s35 then (xg ((1 : Int32) = 0 ∨ (1 : Int32) = 1) <| xv 1 h6) else (xg (xk h6 Y = 10) <| xg (xk h6 Y = 10) <| xb (FX9_seen E Y ((xi h6 Y 22) + s35) h6) fun v7 h8 => xg (c + 13 < nJS) <| xb (FJ0_charAt (c + 13) s35 h8) fun v9 h10 => if (v7 : Int32) = v9 then (again35 (s35 + 1) h10) else (xg ((0 : Int32) = 0 ∨ (0 : Int32) = 1) <| xv 0 h10))) (fun i => nI i) h (lenJS.getD (c + 13) 0) P (R1 := xv 0 h) (R2 := xv 1 h) (by omega) (fun i hi ag => ?_) (fun ag => ?_)
      · refine key.trans ?_
        cases anyB (lenJS.getD (c + 13) 0) P <;> rfl
      · have c2 : ¬ nI (lenJS.getD (c + 13) 0) ≤ nI i := by rw [nI_leP (by omega) (by omega)]; omega
        have e6 : FJ0_charAt (c + 13) (nI i) h = xv (sch (c + 13) i) h := by unfold FJ0_charAt; rw [xg_t ⟨hc, xin_nI hi (by omega)⟩, xz_nI (by omega)]
        obtain ⟨b1, b2⟩ := hb i hi
        have b3 := (l.2.2 (tkA t + i) (by omega)).2
        (try dsimp only); (rw [xg_t (hc), xb_eq (e5), if_neg c2, xg_t (l.1.1), xg_t (l.1.1), k1, nI_a, xb_eq (seen_v l (show tkA t + i < 2 ^ 31 by omega)), xg_t (hc), xb_eq (e6)])
        show _ = if decide (¬ B.1 (tkA t + i) = (wJS c).getD i 0) = true then xv 0 h else ag (nI (i + 1)) h
        have c3 : ((if tkA t + i < B.2 then nI (B.1 (tkA t + i)) else -1) = sch (c + 13) i) ↔ B.1 (tkA t + i) = (wJS c).getD i 0 := by
          rw [if_pos (show tkA t + i < B.2 by omega), b1, nI_eqP (by omega) (by omega)]
        by_cases c4 : B.1 (tkA t + i) = (wJS c).getD i 0
        · rw [if_pos (c3.mpr c4), if_neg (by simp [c4]), nI_s]
        · rw [if_neg (mt c3.mp c4), if_pos (by simp only [decide_eq_true_eq]; exact c4)]
          exact F _
      · (try dsimp only); (rw [xg_t (hc), xb_eq (e5), if_pos (Int32.le_refl _)])
        exact xg_t (show (1 : Int32) = 0 ∨ (1 : Int32) = 1 from Or.inr rfl)
    · have e : isW B t c = false := by
        show decide _ = false
        rw [decide_eq_false_iff_not]
        rintro ⟨-, z⟩
        have := congrArg List.length z
        rw [wdT_len, hl] at this
        exact q2 this
      (try dsimp only); (rw [xg_t (l.1.1), xjn_d, if_pos e0, xg_t (l.1.1), k3, if_pos (show nI (tkK t) = (1 : Int32) by rw [q]; rfl), xg_t (l.1.1), xg_t (l.1.1), xg_t (hc), xb_eq (e5)])
      rw [k2, k1, pk_sub (by omega), if_neg (show ¬ nI (tkB t - tkA t) = nI (lenJS.getD (c + 13) 0) by rw [nI_eqP (by omega) (by omega)]; exact q2), e]
      exact F _
  · have e : isW B t c = false := by
      show decide _ = false
      rw [decide_eq_false_iff_not]
      rintro ⟨z, -⟩
      exact q z
    (try dsimp only); (rw [xg_t (l.1.1), xjn_d, if_pos e0, xg_t (l.1.1), k3, if_neg (show ¬ nI (tkK t) = (1 : Int32) by rw [li1, nI_eqP (by omega) (by omega)]; exact q), e])
    exact F _
theorem isWord_w (l : RLy h Y B) (e0 : ¬ xi h Y 25 = 0) (c : Nat) : FX9_isWord E Y c h = xv 0 h := by
  unfold FX9_isWord
  (try dsimp only); (rw [xg_t (l.1.1), xjn_d, if_neg e0])
  exact xg_t (show (0 : Int32) = 0 ∨ (0 : Int32) = 1 from Or.inl rfl)
end RLS
