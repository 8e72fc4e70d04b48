/-! The class's groups, third part: normal closures, orders, inverses found. -/
set_option linter.unusedVariables false
def wdS (n : Nat) (t : Nat → Nat → Nat) (v : Nat → Nat) (s : Int32) : Int32 := orF s (fun a => if mb s a then cjS n t v a else 0) n
def nlS (n : Nat) (t : Nat → Nat → Nat) (v : Nat → Nat) (s : Int32) : Nat → Int32 := fld (fun _ x => clW n t (wdS n t v x) 9) (clW n t s 9)
/-- the least set with 0 and s that products and conjugates keep -/
def lnl (n : Nat) (t : Nat → Nat → Nat) (v : Nat → Nat) (s r : Int32) : Prop := inB n r ∧ sub (s ||| 1) r ∧ (∀ a b, a < n → b < n → mb r a = true → mb r b = true → mb r (t a b) = true) ∧ (∀ c a, c < n → a < n → mb r a = true → mb r (t (t c a) (v c)) = true) ∧
  ∀ r', sub (s ||| 1) r' → (∀ a b, a < n → b < n → mb r' a = true → mb r' b = true → mb r' (t a b) = true) → (∀ c a, c < n → a < n → mb r' a = true → mb r' (t (t c a) (v c)) = true) → sub r r'
theorem lnl_one {n : Nat} {t : Nat → Nat → Nat} {v : Nat → Nat} {s r r' : Int32} (h : lnl n t v s r) (h' : lnl n t v s r') : r = r' := sub_antisymm (h.2.2.2.2 r' h'.2.1 h'.2.2.1 h'.2.2.2.1) (h'.2.2.2.2 r h.2.1 h.2.2.1 h.2.2.2.1)
theorem fld_stable {σ : Type} {g : σ → σ} {s : σ} {k : Nat} (h : fld (fun _ x => g x) s (k + 1) = fld (fun _ x => g x) s k) : ∀ j, k ≤ j → fld (fun _ x => g x) s j = fld (fun _ x => g x) s k := by
  intro j hj
  induction j with
  | zero => rw [show k = 0 by omega]
  | succ j ih =>
    by_cases e : k = j + 1
    · rw [e]
    · have := ih (by omega)
      rw [fld_s, this, ← fld_s (fun _ x => g x) s k, h]
theorem cnt_one {s : Int32} (h : mb s 0 = true) : ∀ m, 1 ≤ m → 1 ≤ cnt s m := by
  intro m hm
  induction m with
  | zero => omega
  | succ m ih =>
    by_cases e : m = 0
    · subst e
      show 1 ≤ cnt s 0 + (if mb s 0 then 1 else 0)
      rw [h]; simp
    · have := ih (by omega)
      unfold cnt; omega
theorem lcl_9 {n : Nat} {t : Nat → Nat → Nat} (ht : ∀ a b, a < n → b < n → t a b < n) (h0 : 0 < n) (hn : n ≤ 8) {s : Int32} (hs : inB n s) : lcl n t s (clW n t s 9) := by
  obtain ⟨k, hk, hst⟩ := chain_stop (clW n t s) n (cl_up s) (cl_in ht h0 hn hs)
  have e9 : clW n t s 9 = clW n t s k := fld_stable (g := fun x => x ||| pwS n t x) hst 9 (by omega)
  refine ⟨cl_in ht h0 hn hs _, cl_up0 s _, ?_, fun r' h1 h2 => cl_least ht hn s h1 h2 _⟩
  intro a b ha hb h3 h4
  rw [e9] at h3 h4 ⊢
  rw [← hst]
  show mb (clW n t s k ||| pwS n t (clW n t s k)) (t a b) = true
  rw [mb_or, (pw_mb ht hn _ _).mpr ⟨a, b, ha, hb, h3, h4, rfl⟩, Bool.or_true]
theorem cj_mb {n : Nat} {t : Nat → Nat → Nat} {v : Nat → Nat} (ht : ∀ a b, a < n → b < n → t a b < n) (hv : ∀ a, a < n → v a < n) (hn : n ≤ 8) {a : Nat} (ha : a < n) (k : Nat) : mb (cjS n t v a) k = true ↔ ∃ c, c < n ∧ t (t c a) (v c) = k := by
  unfold cjS
  rw [mb_orI, anyB_iff]
  constructor
  · rintro ⟨c, hc, h⟩
    have := ht _ _ (ht c a hc ha) (hv c hc)
    rw [mb_sh (by omega), decide_eq_true_eq] at h
    exact ⟨c, hc, h.symm⟩
  · rintro ⟨c, hc, h⟩
    refine ⟨c, hc, ?_⟩
    have := ht _ _ (ht c a hc ha) (hv c hc)
    rw [mb_sh (by omega), h]
    simp
theorem wd_mb {n : Nat} {t : Nat → Nat → Nat} {v : Nat → Nat} (ht : ∀ a b, a < n → b < n → t a b < n) (hv : ∀ a, a < n → v a < n) (hn : n ≤ 8) (s : Int32) (k : Nat) : mb (wdS n t v s) k = true ↔ mb s k = true ∨ ∃ a c, a < n ∧ c < n ∧ mb s a = true ∧ t (t c a) (v c) = k := by
  unfold wdS
  rw [orF_e, mb_or, mb_orI, Bool.or_eq_true, anyB_iff]
  constructor
  · rintro (h | ⟨a, ha, h⟩)
    · exact Or.inl h
    · cases hm : mb s a
      · rw [hm] at h; simp only [Bool.false_eq_true, if_false, mb_0] at h
      · rw [hm, if_pos rfl] at h
        obtain ⟨c, hc, e⟩ := (cj_mb ht hv hn ha k).mp h
        exact Or.inr ⟨a, c, ha, hc, hm, e⟩
  · rintro (h | ⟨a, c, ha, hc, hm, e⟩)
    · exact Or.inl h
    · refine Or.inr ⟨a, ha, ?_⟩
      rw [hm, if_pos rfl]
      exact (cj_mb ht hv hn ha k).mpr ⟨c, hc, e⟩
theorem wd_in {n : Nat} {t : Nat → Nat → Nat} {v : Nat → Nat} (ht : ∀ a b, a < n → b < n → t a b < n) (hv : ∀ a, a < n → v a < n) (hn : n ≤ 8) {s : Int32} (hs : inB n s) : inB n (wdS n t v s) := by
  intro k hk
  cases h : mb (wdS n t v s) k
  · rfl
  · rcases (wd_mb ht hv hn s k).mp h with q | ⟨a, c, ha, hc, -, e⟩
    · rw [hs k hk] at q; cases q
    · have := ht _ _ (ht c a hc ha) (hv c hc)
      omega
theorem sub_trans {a b c : Int32} (h1 : sub a b) (h2 : sub b c) : sub a c := fun k hk => h2 k (h1 k hk)
theorem sub_or1 (s : Int32) : sub s (s ||| 1) := fun k hk => by rw [mb_or, hk]; rfl
theorem nl_ok {n : Nat} {t : Nat → Nat → Nat} {v : Nat → Nat} (ht : ∀ a b, a < n → b < n → t a b < n) (hv : ∀ a, a < n → v a < n) (h0 : 0 < n) (hn : n ≤ 8) {s : Int32} (hs : inB n s) (i : Nat) : inB n (nlS n t v s i) ∧ ∀ a b, a < n → b < n → mb (nlS n t v s i) a = true → mb (nlS n t v s i) b = true → mb (nlS n t v s i) (t a b) = true := by
  induction i with
  | zero => have := lcl_9 ht h0 hn hs; exact ⟨this.1, this.2.2.1⟩
  | succ i ih => have := lcl_9 ht h0 hn (wd_in ht hv hn ih.1); exact ⟨this.1, this.2.2.1⟩
theorem nl_up {n : Nat} {t : Nat → Nat → Nat} {v : Nat → Nat} (ht : ∀ a b, a < n → b < n → t a b < n) (hv : ∀ a, a < n → v a < n) (h0 : 0 < n) (hn : n ≤ 8) {s : Int32} (hs : inB n s) (i : Nat) : sub (wdS n t v (nlS n t v s i)) (nlS n t v s (i + 1)) :=
  sub_trans (sub_or1 _) (lcl_9 ht h0 hn (wd_in ht hv hn (nl_ok ht hv h0 hn hs i).1)).2.1
theorem wd_up {n : Nat} {t : Nat → Nat → Nat} {v : Nat → Nat} (s : Int32) : sub s (wdS n t v s) := fun k hk => by unfold wdS; rw [orF_e, mb_or, hk]; rfl
theorem nl_sub {n : Nat} {t : Nat → Nat → Nat} {v : Nat → Nat} (ht : ∀ a b, a < n → b < n → t a b < n) (hv : ∀ a, a < n → v a < n) (h0 : 0 < n) (hn : n ≤ 8) {s : Int32} (hs : inB n s) (i : Nat) : sub (s ||| 1) (nlS n t v s i) := by
  induction i with
  | zero => exact (lcl_9 ht h0 hn hs).2.1
  | succ i ih => exact sub_trans ih (sub_trans (wd_up _) (nl_up ht hv h0 hn hs i))
theorem nl_least {n : Nat} {t : Nat → Nat → Nat} {v : Nat → Nat} (ht : ∀ a b, a < n → b < n → t a b < n) (hv : ∀ a, a < n → v a < n) (h0 : 0 < n) (hn : n ≤ 8) {s r' : Int32} (hs : inB n s) (h1 : sub (s ||| 1) r') (h2 : ∀ a b, a < n → b < n → mb r' a = true → mb r' b = true → mb r' (t a b) = true) (h3 : ∀ c a, c < n → a < n → mb r' a = true → mb r' (t (t c a) (v c)) = true) (i : Nat) : sub (nlS n t v s i) r' := by
  induction i with
  | zero => exact (lcl_9 ht h0 hn hs).2.2.2 r' h1 h2
  | succ i ih =>
    refine (lcl_9 ht h0 hn (wd_in ht hv hn (nl_ok ht hv h0 hn hs i).1)).2.2.2 r' (fun k hk => ?_) h2
    rw [mb_or, Bool.or_eq_true] at hk
    rcases hk with hk | hk
    · rcases (wd_mb ht hv hn _ k).mp hk with q | ⟨a, c, ha, hc, hm, e⟩
      · exact ih k q
      · rw [← e]; exact h3 c a hc ha (ih a hm)
    · exact h1 k (by rw [mb_or, hk, Bool.or_true])
/-- the first of m that has P, else m -/
def fi (m : Nat) (P : Nat → Bool) : Nat := (List.range m).findIdx P
theorem fi_le (m : Nat) (P : Nat → Bool) : fi m P ≤ m := by
  unfold fi
  have := List.findIdx_le_length (p := P) (xs := List.range m)
  simpa using this
theorem fi_not {m : Nat} {P : Nat → Bool} {i : Nat} (h : i < fi m P) : P i = false := by
  unfold fi at h
  have := List.not_of_lt_findIdx h
  simpa using this
theorem fi_yes {m : Nat} {P : Nat → Bool} (h : fi m P < m) : P (fi m P) = true := by
  unfold fi at h ⊢
  have h2 : List.findIdx P (List.range m) < (List.range m).length := by simpa using h
  have := List.findIdx_getElem (w := h2)
  simpa using this
theorem fi_eq {m : Nat} {P : Nat → Bool} {k : Nat} (h1 : k ≤ m) (h2 : ∀ i, i < k → P i = false) (h3 : k < m → P k = true) : fi m P = k := by
  rcases Nat.lt_trichotomy (fi m P) k with q | q | q
  · have := fi_yes (m := m) (P := P) (by omega)
    rw [h2 _ q] at this; cases this
  · exact q
  · have := fi_not q
    rw [h3 (by have := fi_le m P; omega)] at this; cases this
/-- powers: a, a*a, .. -/
def pw (t : Nat → Nat → Nat) (a : Nat) : Nat → Nat
  | 0 => a
  | i + 1 => t (pw t a i) a
theorem pw_lt {n : Nat} {t : Nat → Nat → Nat} (ht : ∀ a b, a < n → b < n → t a b < n) {a : Nat} (ha : a < n) (i : Nat) : pw t a i < n := by
  induction i with
  | zero => exact ha
  | succ i ih => exact ht _ _ ih ha
def odS (t : Nat → Nat → Nat) (a : Nat) : Nat := fi 7 (fun i => pw t a i == 0) + 1
section GRP
variable {E : XG} {h : XH} {A n : Nat} {t : Nat → Nat → Nat} {v : Nat → Nat}
theorem GT.lt (hT : GT h A n t) : ∀ a b, a < n → b < n → t a b < n := fun a b ha hb => (hT.2.2.2 a b ha hb).2
theorem GV.lt (hV : GV h A n v) : ∀ a, a < n → v a < n := fun a ha => (hV a ha).2
theorem FX2_closure_9 (hL : GL h A) (hT : GT h A n t) {s : Int32} (hs : inB n s) : FX2_closure E A s h = xv (clW n t s 9) h := by
  obtain ⟨r, h1, h2⟩ := FX2_closure_v (E := E) hL hT hs
  rw [h1, lcl_one h2 (lcl_9 hT.lt hT.2.1 hT.2.2.1 hs)]
theorem FX2_period_v (hL : GL h A) (hT : GT h A n t) {a : Nat} (ha : a < n) : FX2_period E A (nI a) h = xv (nI (odS t a)) h := by
  have l1 := hL.1
  have hT2 := hT
  obtain ⟨t1, t2, t3, t4⟩ := hT2
  have hp := pw_lt hT.lt ha
  unfold FX2_period odS
  have hm := fi_le 7 (fun i => pw t a i == 0)
  refine xlp_all (fun i => (nI (i + 1), nI (pw t a i))) (fun _ => h) (fi 7 (fun i => pw t a i == 0)) (by omega) (fun i hi ag => ?_) (fun ag => ?_)
  · have h1 := fi_not hi
    have h2 : ¬ pw t a i = 0 := by simpa using h1
    have h3 : ¬ 8 ≤ i + 1 := by omega
    have h4 := hp i
    simp (disch := omega) only [xg, xnn_s, xb_v, xb_x, xlt_d, xjn_d, if_true, if_false, eq_self, and_self, and_true, true_and, not_true, not_false_iff, ne_eq, true_or, or_true, or_false, false_or, nI_eq0, h2, li8, nI_leP, h3, l1, FX2_product_v hL hT (hp i) ha, nI_s]
    rfl
  · have h4 := hp (fi 7 (fun i => pw t a i == 0))
    by_cases e : fi 7 (fun i => pw t a i == 0) < 7
    · have h1 := fi_yes e
      have h2 : pw t a (fi 7 (fun i => pw t a i == 0)) = 0 := by simpa using h1
      simp (disch := omega) only [xg, xnn_s, xb_v, xb_x, xlt_d, xjn_d, if_true, if_false, eq_self, and_self, and_true, true_and, not_true, not_false_iff, ne_eq, true_or, or_true, or_false, false_or, nI_eq0, h2, nI_0]
    · have h3 : 8 ≤ fi 7 (fun i => pw t a i == 0) + 1 := by omega
      simp (disch := omega) only [xg, xnn_s, xb_v, xb_x, xlt_d, xjn_d, if_true, if_false, eq_self, and_self, and_true, true_and, not_true, not_false_iff, ne_eq, true_or, or_true, or_false, false_or, nI_eq0, li8, nI_leP, h3]
      split <;> rfl
end GRP
