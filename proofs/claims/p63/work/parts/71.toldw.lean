/-! What is told keeps its laws. -/
set_option linter.unusedVariables false
def gaB (g : GR) : Prop := (0 < g.1 ∧ g.1 ≤ 8) ∧ ∀ a, a < g.1 → g.2.2 a < g.1 ∧ (g.2.1 0 a = a ∧ g.2.1 a 0 = a) ∧ (g.2.1 (g.2.2 a) a = 0 ∧ g.2.1 a (g.2.2 a) = 0) ∧ ∀ b, b < g.1 → g.2.1 a b < g.1 ∧ ∀ c, c < g.1 → g.2.1 (g.2.1 a b) c = g.2.1 a (g.2.1 b c)
theorem gaB_ga {g : GR} (h : gaB g) : (0 < g.1 ∧ g.1 ≤ 8) ∧ GA g.1 g.2.1 g.2.2 :=
  ⟨h.1, fun a b ha hb => ((h.2 a ha).2.2.2 b hb).1, fun a ha => (h.2 a ha).1, fun a b c ha hb hc => ((h.2 a ha).2.2.2 b hb).2 c hc, fun a ha => (h.2 a ha).2.1, fun a ha => (h.2 a ha).2.2.1⟩
def gaC (g : GR) : Bool := (decide (0 < g.1) && decide (g.1 ≤ 8)) && (List.range g.1).all (fun a => (decide (g.2.2 a < g.1) && ((decide (g.2.1 0 a = a) && decide (g.2.1 a 0 = a)) && (decide (g.2.1 (g.2.2 a) a = 0) && decide (g.2.1 a (g.2.2 a) = 0)))) && (List.range g.1).all (fun b => decide (g.2.1 a b < g.1) && (List.range g.1).all (fun c => decide (g.2.1 (g.2.1 a b) c = g.2.1 a (g.2.1 b c)))))
theorem gaC_ga {g : GR} (h : gaC g = true) : gaB g := by
  unfold gaC at h
  rw [Bool.and_eq_true, Bool.and_eq_true, decide_eq_true_eq, decide_eq_true_eq, List.all_eq_true] at h
  refine ⟨h.1, fun a ha => ?_⟩
  have q := h.2 a (List.mem_range.mpr ha)
  simp only [Bool.and_eq_true, decide_eq_true_eq, List.all_eq_true, List.mem_range] at q
  exact ⟨q.1.1, q.1.2.1, q.1.2.2, fun b hb => ⟨(q.2 b hb).1, (q.2 b hb).2⟩⟩
theorem gCyc_ga (n : Nat) (h : n < 9) (h0 : 0 < n) : gaB (gCyc n) := by
  have : ∀ n, n < 9 → 0 < n → gaC (gCyc n) = true := by decide +kernel
  exact gaC_ga (this n h h0)
theorem gDih_ga (n : Nat) (h : n < 5) (h0 : 3 ≤ n) : gaB (gDih n) := by
  have : ∀ n, n < 5 → 3 ≤ n → gaC (gDih n) = true := by decide +kernel
  exact gaC_ga (this n h h0)
theorem gQua_ga : gaB gQua := by
  have : gaC gQua = true := by decide +kernel
  exact gaC_ga this
theorem dm_n {n p q : Nat} (h : q < n) : (p * n + q) / n = p ∧ (p * n + q) % n = q := by
  have h0 : 0 < n := by omega
  rw [Nat.mul_comm]
  refine ⟨?_, ?_⟩
  · rw [Nat.mul_add_div h0, Nat.div_eq_of_lt h, Nat.add_zero]
  · rw [Nat.mul_add_mod, Nat.mod_eq_of_lt h]
theorem dm_lt {n m p q : Nat} (h1 : p < m) (h2 : q < n) : p * n + q < m * n := by
  have : (p + 1) * n ≤ m * n := Nat.mul_le_mul_right n h1
  rw [Nat.add_mul] at this
  omega
theorem dm_of {n m x : Nat} (h : x < m * n) : x / n < m ∧ x % n < n := by
  have h0 : 0 < n := by
    rcases Nat.eq_zero_or_pos n with e | e
    · subst e; omega
    · exact e
  exact ⟨(Nat.div_lt_iff_lt_mul h0).mpr h, Nat.mod_lt _ h0⟩
theorem dm_eq {n x : Nat} : x / n * n + x % n = x := by
  rw [Nat.mul_comm]
  exact Nat.div_add_mod x n
section PRO
variable {S : SD} {a b : Nat}
theorem gPro_ga (ga : GA (sgn S a) (sgt S a) (sgv S a)) (gb : GA (sgn S b) (sgt S b) (sgv S b)) (ha : 0 < sgn S a) (hb : 0 < sgn S b) (h8 : sgn S a * sgn S b ≤ 8) : gaB (gPro S a b) := by
  have key : ∀ x y, x < sgn S a * sgn S b → y < sgn S a * sgn S b → sgt S a (x / sgn S b) (y / sgn S b) < sgn S a ∧ sgt S b (x % sgn S b) (y % sgn S b) < sgn S b := fun x y hx hy => by
    obtain ⟨x1, x2⟩ := dm_of hx
    obtain ⟨y1, y2⟩ := dm_of hy
    exact ⟨ga.cl x1 y1, gb.cl x2 y2⟩
  refine ⟨⟨Nat.mul_pos ha hb, h8⟩, fun x hx => ?_⟩
  have hx : x < sgn S a * sgn S b := hx
  obtain ⟨x1, x2⟩ := dm_of hx
  have v1 := ga.iv x1
  have v2 := gb.iv x2
  refine ⟨dm_lt v1 v2, ⟨?_, ?_⟩, ⟨?_, ?_⟩, fun y hy => ?_⟩
  · show sgt S a (0 / sgn S b) (x / sgn S b) * sgn S b + sgt S b (0 % sgn S b) (x % sgn S b) = x
    rw [Nat.zero_div, Nat.zero_mod, ga.ol x1, gb.ol x2, dm_eq]
  · show sgt S a (x / sgn S b) (0 / sgn S b) * sgn S b + sgt S b (x % sgn S b) (0 % sgn S b) = x
    rw [Nat.zero_div, Nat.zero_mod, ga.or x1, gb.or x2, dm_eq]
  · show sgt S a ((sgv S a (x / sgn S b) * sgn S b + sgv S b (x % sgn S b)) / sgn S b) (x / sgn S b) * sgn S b + sgt S b ((sgv S a (x / sgn S b) * sgn S b + sgv S b (x % sgn S b)) % sgn S b) (x % sgn S b) = 0
    rw [(dm_n v2).1, (dm_n v2).2, ga.il x1, gb.il x2, Nat.zero_mul]
  · show sgt S a (x / sgn S b) ((sgv S a (x / sgn S b) * sgn S b + sgv S b (x % sgn S b)) / sgn S b) * sgn S b + sgt S b (x % sgn S b) ((sgv S a (x / sgn S b) * sgn S b + sgv S b (x % sgn S b)) % sgn S b) = 0
    rw [(dm_n v2).1, (dm_n v2).2, ga.ir x1, gb.ir x2, Nat.zero_mul]
  · have hy : y < sgn S a * sgn S b := hy
    obtain ⟨y1, y2⟩ := dm_of hy
    obtain ⟨k1, k2⟩ := key x y hx hy
    refine ⟨dm_lt k1 k2, fun z hz => ?_⟩
    have hz : z < sgn S a * sgn S b := hz
    obtain ⟨z1, z2⟩ := dm_of hz
    obtain ⟨l1, l2⟩ := key y z hy hz
    show sgt S a ((sgt S a (x / sgn S b) (y / sgn S b) * sgn S b + sgt S b (x % sgn S b) (y % sgn S b)) / sgn S b) (z / sgn S b) * sgn S b + sgt S b ((sgt S a (x / sgn S b) (y / sgn S b) * sgn S b + sgt S b (x % sgn S b) (y % sgn S b)) % sgn S b) (z % sgn S b) = sgt S a (x / sgn S b) ((sgt S a (y / sgn S b) (z / sgn S b) * sgn S b + sgt S b (y % sgn S b) (z % sgn S b)) / sgn S b) * sgn S b + sgt S b (x % sgn S b) ((sgt S a (y / sgn S b) (z / sgn S b) * sgn S b + sgt S b (y % sgn S b) (z % sgn S b)) % sgn S b)
    rw [(dm_n k2).1, (dm_n k2).2, (dm_n l2).1, (dm_n l2).2, ga.as x1 y1 z1, gb.as x2 y2 z2]
end PRO
def WA (B : BF) (A : PA) : Prop := WK B (paK A) ∧ WS (paZ A) ∧ WT (paZ A) (paT A) ∧ WNm (paZ A)
section TOLD
variable {B : BF} {S : SD} {T : ST} {D : Nat → Int32} {t : TK}
theorem gGk_ga (w : WK B t) (W : WS S) (e : eGk B S t = none) : gaB (gGk B S t) := by
  unfold eGk at e
  unfold gGk
  by_cases c1 : isW B t 3 = true
  · rw [if_pos c1] at e ⊢
    obtain ⟨-, e1, e2⟩ := eNu_0 e
    exact gCyc_ga _ (by omega) (by omega)
  rw [if_neg c1] at e ⊢
  by_cases c2 : isW B t 4 = true
  · rw [if_pos c2] at e ⊢
    obtain ⟨-, e1, e2⟩ := eNu_0 e
    exact gDih_ga _ (by omega) (by omega)
  rw [if_neg c2] at e ⊢
  by_cases c3 : isW B t 5 = true
  · rw [if_pos c3]
    exact gQua_ga
  rw [if_neg c3] at e ⊢
  by_cases c4 : isW B t 6 = true
  · rw [if_pos c4] at e
    obtain ⟨e1, e⟩ := eo_none e
    obtain ⟨e2, e3⟩ := eo_none e
    have a := (eKn_0 e1).2
    have b := (eKn_0 e2).2
    have c := of_decide_eq_false (ck_none e3)
    obtain ⟨⟨a1, a2⟩, a3⟩ := W.2.1 _ a
    obtain ⟨⟨b1, b2⟩, b3⟩ := W.2.1 _ b
    exact gPro_ga a3 b3 a1 b1 (by omega)
  · rw [if_neg c4] at e
    cases e
theorem tGk_wk (w : WK B t) : WK B (tGk B t) := by
  unfold tGk
  split
  · exact nx_wk (nx_wk w)
  · split
    · exact nx_wk (nx_wk w)
    · split
      · exact nx_wk w
      · exact nx_wk (nx_wk (nx_wk w))
theorem tGk_up (w : WK B t) : tkA t ≤ tkA (tGk B t) := by
  have a := nx_up w
  have b := nx_up (nx_wk w)
  have c := nx_up (nx_wk (nx_wk w))
  unfold tGk
  split
  · omega
  · split
    · omega
    · split <;> omega
theorem sAg_g {g : GR} {k : Nat} (h : ¬ k = sng S) : (sAg S g).2.1 k = S.2.1 k := if_neg h
theorem sAg_n {g : GR} : (sAg S g).2.1 (sng S) = g := if_pos rfl
theorem sAm_o {u l m : Nat} (h : ¬ m = snm S) : smu (sAm S u l) m = smu S m ∧ sml (sAm S u l) m = sml S m := by
  have e : (sAm S u l).2.2.1 m = S.2.2.1 m := if_neg h
  exact ⟨congrArg (·.1) e, congrArg (·.2) e⟩
theorem sAm_n {u l : Nat} : smu (sAm S u l) (snm S) = u ∧ sml (sAm S u l) (snm S) = l := by
  have e : (sAm S u l).2.2.1 (snm S) = (u, l) := if_pos rfl
  exact ⟨congrArg (·.1) e, congrArg (·.2) e⟩
theorem sAa_o {u l a : Nat} (h : ¬ a = sna S) : saf (sAa S u l) a = saf S a ∧ sao (sAa S u l) a = sao S a := by
  have e : (sAa S u l).2.2.2.1 a = S.2.2.2.1 a := if_neg h
  exact ⟨congrArg (·.1) e, congrArg (·.2) e⟩
theorem sAa_n {u l : Nat} : saf (sAa S u l) (sna S) = u ∧ sao (sAa S u l) (sna S) = l := by
  have e : (sAa S u l).2.2.2.1 (sna S) = (u, l) := if_pos rfl
  exact ⟨congrArg (·.1) e, congrArg (·.2) e⟩
/-- names with one more of sort s -/
theorem WNm_s {S' : SD} {s : Nat} {w : List Nat} (N : WNm S) (hn : ∀ s' k, snn S' s' k = if s' = s ∧ k = scn S s then w else snn S s' k) (hc : ∀ s', s' < 3 → scn S' s' = if s' = s then scn S s + 1 else scn S s') (hw : (1 ≤ w.length ∧ w.length ≤ 10) ∧ ∀ c ∈ w, 97 ≤ c ∧ c ≤ 122) : WNm S' := by
  intro s' k hs hk
  rw [hc s' hs] at hk
  rw [hn]
  by_cases c : s' = s ∧ k = scn S s
  · rw [if_pos c]; exact hw
  · rw [if_neg c]
    refine N s' k hs ?_
    by_cases e : s' = s
    · rw [if_pos e] at hk
      subst e
      have : ¬ k = scn S s' := fun q => c ⟨rfl, q⟩
      omega
    · rw [if_neg e] at hk; exact hk
theorem scn_ag {g : GR} {w : List Nat} : ∀ s', s' < 3 → scn (sAg (sNm S 0 w) g) s' = if s' = 0 then scn S 0 + 1 else scn S s' := fun s' h => by
  match s', h with
  | 0, _ => rfl
  | 1, _ => rfl
  | 2, _ => rfl
theorem scn_am {u l : Nat} {w : List Nat} : ∀ s', s' < 3 → scn (sAm (sNm S 1 w) u l) s' = if s' = 1 then scn S 1 + 1 else scn S s' := fun s' h => by
  match s', h with
  | 0, _ => rfl
  | 1, _ => rfl
  | 2, _ => rfl
theorem scn_aa {u l : Nat} {w : List Nat} : ∀ s', s' < 3 → scn (sAa (sNm S 2 w) u l) s' = if s' = 2 then scn S 2 + 1 else scn S s' := fun s' h => by
  match s', h with
  | 0, _ => rfl
  | 1, _ => rfl
  | 2, _ => rfl
theorem nGl_wa (w : WK B t) (W : WS S) (V : WT S T) (N : WNm S) (e : eGl B S t = none) : WA B (nGl B S T D t) := by
  obtain ⟨e1, e⟩ := eo_none e
  obtain ⟨e2, e3⟩ := eo_none e
  have c := of_decide_eq_false (ck_none e1)
  have g := gaB_ga (gGk_ga (nx_wk (nx_wk w)) W e3)
  obtain ⟨⟨w1, w2, w3⟩, w4, w5, w6⟩ := W
  have k := (eNm_0 e2).1
  have gen : ∀ g : GR, ((0 < g.1 ∧ g.1 ≤ 8) ∧ GA g.1 g.2.1 g.2.2) → WS (sAg (sNm S 0 (wdT B (nx B t))) g) ∧ WT (sAg (sNm S 0 (wdT B (nx B t))) g) T := fun g hg => by
    have o : ∀ k, ¬ k = sng S → (sAg (sNm S 0 (wdT B (nx B t))) g).2.1 k = S.2.1 k := fun k hk => if_neg hk
    have os : ∀ k, k < sng S → sgn (sAg (sNm S 0 (wdT B (nx B t))) g) k = sgn S k := fun k hk => congrArg (·.1) (o k (by omega))
    have ou : ∀ m, m < snm S → nuS (sAg (sNm S 0 (wdT B (nx B t))) g) m = nuS S m := fun m hm => os _ (w5 m hm).1
    have ol : ∀ m, m < snm S → nlS2 (sAg (sNm S 0 (wdT B (nx B t))) g) m = nlS2 S m := fun m hm => os _ (w5 m hm).2
    refine ⟨⟨⟨show sng S + 1 ≤ 6 by omega, w2, w3⟩, fun k hk => ?_, fun m hm => ?_, w6⟩, fun m a hm ha => ?_, fun m g' a hm hg ha => ?_, fun a x ha hx => ?_, fun a x ha hx => ?_⟩
    · have hk : k < sng S + 1 := hk
      by_cases q : k = sng S
      · have e : (sAg (sNm S 0 (wdT B (nx B t))) g).2.1 k = g := if_pos q
        unfold sgn sgt sgv
        rw [e]
        exact hg
      · unfold sgn sgt sgv
        rw [o k q]
        exact w4 k (by omega)
    · have := w5 m hm
      exact ⟨Nat.lt_succ_of_lt this.1, Nat.lt_succ_of_lt this.2⟩
    · rw [ol m hm]; rw [ou m hm] at ha; exact V.1 m a hm ha
    · rw [ou m hm] at ha ⊢; rw [ol m hm] at hg; exact V.2.1 m g' a hm hg ha
    · have q := w6 a ha
      have hx : x < nuS (sAg (sNm S 0 (wdT B (nx B t))) g) (saf S a) := hx
      show ttp T a x < nuS (sAg (sNm S 0 (wdT B (nx B t))) g) (sao S a)
      rw [ou _ q.1] at hx; rw [ou _ q.2]; exact V.2.2.1 a x ha hx
    · have q := w6 a ha
      have hx : x < nlS2 (sAg (sNm S 0 (wdT B (nx B t))) g) (saf S a) := hx
      show tbt T a x < nlS2 (sAg (sNm S 0 (wdT B (nx B t))) g) (sao S a)
      rw [ol _ q.1] at hx; rw [ol _ q.2]; exact V.2.2.2 a x ha hx
  exact ⟨tGk_wk (nx_wk (nx_wk w)), (gen _ g).1, (gen _ g).2, WNm_s N (fun _ _ => rfl) scn_ag (wdT_ok (nx_wk w) k)⟩
theorem eEl_lt {n hi : Nat} (h0 : 0 < hi) (h : eEl B (hi - 1) t n = none) : ∀ i, i < n → tEl B t i < hi := fun i q => by
  have := (eEl_0 h i q).2
  unfold tEl
  omega
theorem nMl_wa (w : WK B t) (W : WS S) (V : WT S T) (N : WNm S) (e : eMl B S t = none) : WA B (nMl B S T D t) := by
  obtain ⟨e1, e⟩ := eo_none e
  obtain ⟨e2, e⟩ := eo_none e
  obtain ⟨e3, e⟩ := eo_none e
  obtain ⟨e4, e5⟩ := eo_none e
  have c := of_decide_eq_false (ck_none e1)
  have k := (eNm_0 e2).1
  have a := (eKn_0 e3).2
  have b := (eKn_0 e4).2
  have g := eEl_lt (W.2.1 _ b).1.1 e5
  unfold WA nMl
  generalize nmI S 0 (wdT B (nxn B t 2)) = u at *
  generalize nmI S 0 (wdT B (nxn B t 3)) = l at *
  have a : u < sng S := a
  have b : l < sng S := b
  obtain ⟨⟨w1, w2, w3⟩, w4, w5, w6⟩ := W
  have o := fun m (hm : ¬ m = snm S) => sAm_o (S := sNm S 1 (wdT B (nx B t))) (u := u) (l := l) hm
  have n := sAm_n (S := sNm S 1 (wdT B (nx B t))) (u := u) (l := l)
  have ou : ∀ m, m < snm S → nuS (sAm (sNm S 1 (wdT B (nx B t))) u l) m = nuS S m := fun m hm => congrArg (sgn S) (o m (by omega)).1
  have ol : ∀ m, m < snm S → nlS2 (sAm (sNm S 1 (wdT B (nx B t))) u l) m = nlS2 S m := fun m hm => congrArg (sgn S) (o m (by omega)).2
  have nu : nuS (sAm (sNm S 1 (wdT B (nx B t))) u l) (snm S) = sgn S u := congrArg (sgn S) n.1
  have nl : nlS2 (sAm (sNm S 1 (wdT B (nx B t))) u l) (snm S) = sgn S l := congrArg (sgn S) n.2
  refine ⟨nxn_wk (nxn_wk w _) _, ⟨⟨w1, show snm S + 1 ≤ 6 by omega, w3⟩, w4, fun m hm => ?_, fun a ha => ?_⟩, ⟨fun m a hm ha => ?_, fun m g' a hm hg ha => ?_, fun a x ha hx => ?_, fun a x ha hx => ?_⟩, WNm_s N (fun _ _ => rfl) scn_am (wdT_ok (nx_wk w) k)⟩
  · have hm : m < snm S + 1 := hm
    show smu (sAm (sNm S 1 (wdT B (nx B t))) u l) m < sng S ∧ sml (sAm (sNm S 1 (wdT B (nx B t))) u l) m < sng S
    by_cases q : m = snm S
    · subst q; rw [show smu (sAm (sNm S 1 (wdT B (nx B t))) u l) (snm S) = u from n.1, show sml (sAm (sNm S 1 (wdT B (nx B t))) u l) (snm S) = l from n.2]; exact ⟨a, b⟩
    · rw [(o m q).1, (o m q).2]; exact w5 m (by omega)
  · have := w6 a ha
    exact ⟨Nat.lt_succ_of_lt this.1, Nat.lt_succ_of_lt this.2⟩
  · have hm : m < snm S + 1 := hm
    show (if m = snm S then tEl B (nxn B t 4) a else tbd T m a) < _
    by_cases q : m = snm S
    · have ha : a < nuS (sAm (sNm S 1 (wdT B (nx B t))) u l) m := ha
      rw [if_pos q]
      rw [q] at ha ⊢
      show _ < nlS2 (sAm (sNm S 1 (wdT B (nx B t))) u l) (snm S)
      rw [nu] at ha
      rw [nl]
      exact g a ha
    · have ha : a < nuS (sAm (sNm S 1 (wdT B (nx B t))) u l) m := ha
      rw [if_neg q]
      show _ < nlS2 (sAm (sNm S 1 (wdT B (nx B t))) u l) m
      rw [ou m (by omega)] at ha
      rw [ol m (by omega)]
      exact V.1 m a (by omega) ha
  · have hm : m < snm S + 1 := hm
    show (if m = snm S then a else tac T m g' a) < _
    have ha : a < nuS (sAm (sNm S 1 (wdT B (nx B t))) u l) m := ha
    have hg : g' < nlS2 (sAm (sNm S 1 (wdT B (nx B t))) u l) m := hg
    by_cases q : m = snm S
    · rw [if_pos q]
      exact ha
    · rw [if_neg q]
      show _ < nuS (sAm (sNm S 1 (wdT B (nx B t))) u l) m
      rw [ou m (by omega)] at ha ⊢
      rw [ol m (by omega)] at hg
      exact V.2.1 m g' a (by omega) hg ha
  · have q := w6 a ha
    have hx : x < nuS (sAm (sNm S 1 (wdT B (nx B t))) u l) (saf S a) := hx
    show ttp T a x < nuS (sAm (sNm S 1 (wdT B (nx B t))) u l) (sao S a)
    rw [ou _ q.1] at hx; rw [ou _ q.2]; exact V.2.2.1 a x ha hx
  · have q := w6 a ha
    have hx : x < nlS2 (sAm (sNm S 1 (wdT B (nx B t))) u l) (saf S a) := hx
    show tbt T a x < nlS2 (sAm (sNm S 1 (wdT B (nx B t))) u l) (sao S a)
    rw [ol _ q.1] at hx; rw [ol _ q.2]; exact V.2.2.2 a x ha hx
theorem nAl_wa (w : WK B t) (W : WS S) (V : WT S T) (N : WNm S) (e : eAl B S D t = none) : WA B (nAl B S T D t) := by
  obtain ⟨e1, e⟩ := eo_none e
  obtain ⟨e2, e⟩ := eo_none e
  obtain ⟨e3, e4⟩ := eo_none e
  have a : mAl B S t < snm S := (eKn_0 e1).2
  have g := eEl_lt (W.2.1 _ (W.2.2.1 _ a).1).1.1 e4
  refine ⟨nxn_wk (nxn_wk w _) _, W, ⟨V.1, fun m g' x hm hg hx => ?_, V.2.2⟩, N⟩
  have hx : x < nuS S m := hx
  show (if m = mAl B S t ∧ g' = vlT B (nxn B t 2) then tEl B (nxn B t 3) x else tac T m g' x) < _
  by_cases q : m = mAl B S t ∧ g' = vlT B (nxn B t 2)
  · rw [if_pos q]
    rw [q.1] at hx ⊢
    exact g x hx
  · rw [if_neg q]; exact V.2.1 m g' x hm hg hx
theorem nRl_wa (w : WK B t) (W : WS S) (V : WT S T) (N : WNm S) (e : eRl B S t = none) : WA B (nRl B S T D t) := by
  obtain ⟨e1, e⟩ := eo_none e
  obtain ⟨e2, e⟩ := eo_none e
  obtain ⟨e3, e⟩ := eo_none e
  obtain ⟨e4, e⟩ := eo_none e
  obtain ⟨e5, e6⟩ := eo_none e
  have c := of_decide_eq_false (ck_none e1)
  have k := (eNm_0 e2).1
  have a : fRl B S t < snm S := (eKn_0 e3).2
  have b : oRl B S t < snm S := (eKn_0 e4).2
  have g := eEl_lt (W.2.1 _ (W.2.2.1 _ b).1).1.1 e5
  have g2 := eEl_lt (W.2.1 _ (W.2.2.1 _ b).2).1.1 e6
  unfold WA nRl
  generalize fRl B S t = u at *
  generalize oRl B S t = l at *
  obtain ⟨⟨w1, w2, w3⟩, w4, w5, w6⟩ := W
  have o := fun m (hm : ¬ m = sna S) => sAa_o (S := sNm S 2 (wdT B (nx B t))) (u := u) (l := l) hm
  have n := sAa_n (S := sNm S 2 (wdT B (nx B t))) (u := u) (l := l)
  have n1 : saf (sAa (sNm S 2 (wdT B (nx B t))) u l) (sna S) = u := n.1
  have n2 : sao (sAa (sNm S 2 (wdT B (nx B t))) u l) (sna S) = l := n.2
  refine ⟨nxn_wk (nxn_wk (nxn_wk w _) _) _, ⟨⟨w1, w2, show sna S + 1 ≤ 8 by omega⟩, w4, w5, fun a' ha => ?_⟩, ⟨V.1, V.2.1, fun a' x ha hx => ?_, fun a' x ha hx => ?_⟩, WNm_s N (fun _ _ => rfl) scn_aa (wdT_ok (nx_wk w) k)⟩
  · have ha : a' < sna S + 1 := ha
    show saf (sAa (sNm S 2 (wdT B (nx B t))) u l) a' < snm S ∧ sao (sAa (sNm S 2 (wdT B (nx B t))) u l) a' < snm S
    by_cases q : a' = sna S
    · subst q; rw [n1, n2]; exact ⟨a, b⟩
    · rw [(o a' q).1, (o a' q).2]; exact w6 a' (by omega)
  · have ha : a' < sna S + 1 := ha
    have hx : x < nuS S (saf (sAa (sNm S 2 (wdT B (nx B t))) u l) a') := hx
    show (if a' = sna S then tEl B (nxn B t 4) x else ttp T a' x) < nuS S (sao (sAa (sNm S 2 (wdT B (nx B t))) u l) a')
    by_cases q : a' = sna S
    · rw [if_pos q]
      rw [q, n1] at hx
      rw [q, n2]
      exact g x hx
    · rw [if_neg q]
      rw [(o a' q).1] at hx
      rw [(o a' q).2]
      exact V.2.2.1 a' x (by omega) hx
  · have ha : a' < sna S + 1 := ha
    have hx : x < nlS2 S (saf (sAa (sNm S 2 (wdT B (nx B t))) u l) a') := hx
    show (if a' = sna S then tEl B (nxn B (nxn B t 4) (nuS S u)) x else tbt T a' x) < nlS2 S (sao (sAa (sNm S 2 (wdT B (nx B t))) u l) a')
    by_cases q : a' = sna S
    · rw [if_pos q]
      rw [q, n1] at hx
      rw [q, n2]
      exact g2 x hx
    · rw [if_neg q]
      rw [(o a' q).1] at hx
      rw [(o a' q).2]
      exact V.2.2.2 a' x (by omega) hx
theorem nLine_wa {A : PA} (w : WA B A) (e : eLine B A = none) : WA B (nLine B A) := by
  obtain ⟨w1, w2, w3, w4⟩ := w
  unfold eLine at e
  unfold nLine
  by_cases c1 : isW B (paK A) 2 = true
  · rw [if_pos c1] at e ⊢; exact nGl_wa w1 w2 w3 w4 e
  rw [if_neg c1] at e ⊢
  by_cases c2 : isW B (paK A) 7 = true
  · rw [if_pos c2] at e ⊢; exact nMl_wa w1 w2 w3 w4 e
  rw [if_neg c2] at e ⊢
  by_cases c3 : isW B (paK A) 8 = true
  · rw [if_pos c3] at e ⊢; exact nAl_wa w1 w2 w3 w4 e
  rw [if_neg c3] at e ⊢
  by_cases c4 : isW B (paK A) 9 = true
  · rw [if_pos c4] at e; exact nRl_wa w1 w2 w3 w4 e
  · rw [if_neg c4] at e; cases e
/-- a line goes on in the text -/
theorem nLine_up {A : PA} (w : WK B (paK A)) : tkA (paK A) ≤ tkA (paK (nLine B A)) := by
  have u1 := nx_up w
  have u2 := nx_up (nx_wk w)
  unfold nLine
  split
  · have := tGk_up (nx_wk (nx_wk w))
    show _ ≤ tkA (tGk B (nx B (nx B (paK A))))
    omega
  · split
    · exact Nat.le_trans (nxn_up w 4) (nxn_up (nxn_wk w 4) _)
    · split
      · exact Nat.le_trans (nxn_up w 3) (nxn_up (nxn_wk w 3) _)
      · exact Nat.le_trans (Nat.le_trans (nxn_up w 4) (nxn_up (nxn_wk w 4) _)) (nxn_up (nxn_wk (nxn_wk w 4) _) _)
theorem aNx_wa {A : PA} (w : WA B A) : WA B (aNx B A) := ⟨nx_wk w.1, w.2⟩
/-- codes are 1 to 4 -/
theorem eGk_ok (w : WK B t) : eOK B (eGk B S t) := by
  unfold eGk
  split
  · exact eOK_Nu (nx_wk w)
  split
  · exact eOK_Nu (nx_wk w)
  split
  · exact eOK_n B
  split
  · exact eOK_eo (eOK_Kn (nx_wk w)) (eOK_eo (eOK_Kn (nx_wk (nx_wk w))) (eOK_ck (by omega) (by omega) (nx_wk (nx_wk w))))
  · exact eOK_ck (c := true) (code := 1) (by omega) (by omega) w
theorem eLine_ok {A : PA} (w : WK B (paK A)) : eOK B (eLine B A) := by
  unfold eLine
  split
  · exact eOK_eo (eOK_ck (by omega) (by omega) w) (eOK_eo (eOK_Nm (nx_wk w)) (eGk_ok (nx_wk (nx_wk w))))
  split
  · exact eOK_eo (eOK_ck (by omega) (by omega) w) (eOK_eo (eOK_Nm (nx_wk w)) (eOK_eo (eOK_Kn (nxn_wk w 2)) (eOK_eo (eOK_Kn (nxn_wk w 3)) (eOK_El (nxn_wk w 4) _))))
  split
  · exact eOK_eo (eOK_Kn (nx_wk w)) (eOK_eo (eOK_Nu (nxn_wk w 2)) (eOK_eo (eOK_ck (by omega) (by omega) (nxn_wk w 2)) (eOK_El (nxn_wk w 3) _)))
  split
  · exact eOK_eo (eOK_ck (by omega) (by omega) w) (eOK_eo (eOK_Nm (nx_wk w)) (eOK_eo (eOK_Kn (nxn_wk w 2)) (eOK_eo (eOK_Kn (nxn_wk w 3)) (eOK_eo (eOK_El (nxn_wk w 4) _) (eOK_El (nxn_wk (nxn_wk w 4) _) _)))))
  · exact eOK_ck (c := true) (code := 1) (by omega) (by omega) w
end TOLD
