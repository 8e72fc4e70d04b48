/-! The law's text: what each line tells. -/
set_option linter.unusedVariables false
def gS (S : SD) (g : GR) : SD := sAg (sNm S 0 [103, 97 + sng S]) g
def mS (S : SD) (u l : Nat) : SD := sAm (sNm S 1 [109, 97 + snm S]) u l
def aS (S : SD) (f o : Nat) : SD := sAa (sNm S 2 [97, 97 + sna S]) f o
def Tmd (S : SD) (T : ST) (f : Nat → Nat) : ST := ((fun m a => if m = snm S then f a else tbd T m a), (fun m g a => if m = snm S then a else tac T m g a), T.2.2)
def Tal (T : ST) (m g : Nat) (f : Nat → Nat) : ST := (tbd T, (fun m' g' a => if m' = m ∧ g' = g then f a else tac T m' g' a), T.2.2)
def Tar (S : SD) (T : ST) (p q : Nat → Nat) : ST := (tbd T, tac T, (fun a x => if a = sna S then p x else ttp T a x), (fun a x => if a = sna S then q x else tbt T a x), tcc T)
section LI2
variable {B : BF} {l : List Nat} {n : Nat} {S S' : SD} {T T' T2 : ST} {D D' : Nat → Int32} {g : GR}
theorem nu_g (W : WS S) {m : Nat} (hm : m < snm S) : nuS (gS S g) m = nuS S m ∧ nlS2 (gS S g) m = nlS2 S m := by
  have r := W.2.2.1 m hm
  constructor
  · show (if smu S m = sng S then g else S.2.1 (smu S m)).1 = _
    rw [if_neg (by omega)]; rfl
  · show (if sml S m = sng S then g else S.2.1 (sml S m)).1 = _
    rw [if_neg (by omega)]; rfl
theorem TE_g (W : WS S) (te : TE S T T') : TE (gS S g) T T' := by
  obtain ⟨t1, t2, t3, t4, t5⟩ := te
  refine ⟨fun m a hm ha => t1 m a hm (by rw [← (nu_g (g := g) W hm).1]; exact ha), fun m g' a hm hg ha => t2 m g' a hm (by rw [← (nu_g (g := g) W hm).2]; exact hg) (by rw [← (nu_g (g := g) W hm).1]; exact ha), fun a x ha hx => t3 a x ha (by rw [← (nu_g (g := g) W (W.2.2.2 a ha).1).1]; exact hx), fun a x ha hx => t4 a x ha (by rw [← (nu_g (g := g) W (W.2.2.2 a ha).1).2]; exact hx), t5⟩
theorem WS_g (W : WS S) (h6 : sng S < 6) (hg : gaB g) : WS (gS S g) := by
  obtain ⟨⟨w1, w2, w3⟩, w4, w5, w6⟩ := W
  refine ⟨⟨by show sng S + 1 ≤ 6; omega, w2, w3⟩, fun k hk => ?_, fun m hm => ?_, w6⟩
  · have hk : k < sng S + 1 := hk
    show (0 < (if k = sng S then g else S.2.1 k).1 ∧ (if k = sng S then g else S.2.1 k).1 ≤ 8) ∧ GA (if k = sng S then g else S.2.1 k).1 (if k = sng S then g else S.2.1 k).2.1 (if k = sng S then g else S.2.1 k).2.2
    by_cases e : k = sng S
    · rw [if_pos e]
      exact gaB_ga hg
    · rw [if_neg e]
      exact w4 k (by omega)
  · have := w5 m hm
    show smu S m < sng S + 1 ∧ sml S m < sng S + 1
    omega
theorem WT_g (W : WS S) (w : WT S T) : WT (gS S g) T := by
  obtain ⟨t1, t2, t3, t4⟩ := w
  refine ⟨fun m a hm ha => ?_, fun m g' a hm hg ha => ?_, fun a x ha hx => ?_, fun a x ha hx => ?_⟩
  · rw [(nu_g (g := g) W hm).1] at ha
    rw [(nu_g (g := g) W hm).2]; exact t1 m a hm ha
  · rw [(nu_g (g := g) W hm).1] at ha ⊢
    rw [(nu_g (g := g) W hm).2] at hg
    exact t2 m g' a hm hg ha
  · have r := W.2.2.2 a ha
    have hx : x < nuS (gS S g) (saf S a) := hx
    show ttp T a x < nuS (gS S g) (sao S a)
    rw [(nu_g (g := g) W r.1).1] at hx
    rw [(nu_g (g := g) W r.2).1]
    exact t3 a x ha hx
  · have r := W.2.2.2 a ha
    have hx : x < nlS2 (gS S g) (saf S a) := hx
    show tbt T a x < nlS2 (gS S g) (sao S a)
    rw [(nu_g (g := g) W r.1).2] at hx
    rw [(nu_g (g := g) W r.2).2]
    exact t4 a x ha hx
theorem NM3_g (N : NM3 S) : NM3 (gS S g) := by
  obtain ⟨n1, n2, n3⟩ := N
  refine ⟨fun k hk => ?_, fun m hm => ?_, fun a ha => ?_⟩
  · have hk : k < sng S + 1 := hk
    show (if (0 : Nat) = 0 ∧ k = sng S then [103, 97 + sng S] else snn S 0 k) = _
    by_cases e : k = sng S
    · rw [if_pos ⟨rfl, e⟩, e]
    · rw [if_neg (fun z => e z.2)]; exact n1 k (by omega)
  · show (if (1 : Nat) = 0 ∧ m = scn S 0 then [103, 97 + sng S] else snn S 1 m) = _
    rw [if_neg (fun z => absurd z.1 (by decide))]; exact n2 m hm
  · show (if (2 : Nat) = 0 ∧ a = scn S 0 then [103, 97 + sng S] else snn S 2 a) = _
    rw [if_neg (fun z => absurd z.1 (by decide))]; exact n3 a ha
/-- a group's line -/
theorem RD_grp (r : RD l n S T D) (W : WS S) (N : NM3 S) (h6 : sng S < 6) {ws : List (Nat × List Nat)} (ows : ∀ x ∈ ws, okT x) (hd : ws.getD 0 (0, []) = (1, [103, 97 + sng S])) (h1 : 0 < ws.length) (H : ∀ B t, isT B t (1, wJS 2) → (∀ i, i < ws.length → isT B (nxn B t (i + 1)) (ws.getD i (0, []))) → eGk B S (nxn B t 2) = none ∧ gGk B S (nxn B t 2) = g ∧ tGk B (nxn B t 2) = nxn B t (ws.length + 1)) : RD (l ++ ([59] ++ (wJS 2 ++ prS ws))) (n + 1) (gS S g) T D := by
  refine RD_line r (w := (1, wJS 2)) (okW (by omega) (by omega)) ows (fun B t T' te hw hs => ⟨T', TE_g W te, ?_, ?_⟩)
  · have q : isT B (nx B t) (1, [103, 97 + sng S]) := by
      have := hs 0 h1
      rw [hd] at this
      exact this
    obtain ⟨e1, e2, e3⟩ := H B t hw hs
    show (if isW B t 2 = true then eGl B S t else _) = none
    rw [if_pos (isW_t hw)]
    unfold eGl
    rw [show ck (decide (sng S = 6)) 4 t = none from by rw [decide_eq_false (by omega)]; rfl, eo_n, eNm_n (S := S) (s := 0) q.1 (by rw [show wdT B (nx B t) = [103, 97 + sng S] from q.2.1 rfl]; exact nmI_v (s := 0) N.1 (Nat.le_refl _)), eo_n]
    exact e1
  · have q : isT B (nx B t) (1, [103, 97 + sng S]) := by
      have := hs 0 h1
      rw [hd] at this
      exact this
    obtain ⟨e1, e2, e3⟩ := H B t hw hs
    show (if isW B t 2 = true then nGl B S T' D t else _) = _
    rw [if_pos (isW_t hw)]
    show (tGk B (nxn B t 2), sAg (sNm S 0 (wdT B (nx B t))) (gGk B S (nxn B t 2)), T', D) = _
    rw [show wdT B (nx B t) = [103, 97 + sng S] from q.2.1 rfl, e2, e3]
    rfl
theorem jne0 : ∀ i, i < 10 → ∀ j, j < 10 → (i = 0 ∨ j = 0 ∨ i = j) ∨ ¬ wJS i = wJS j := by decide +kernel
theorem jne (i : Nat) (hi : i < 10) (j : Nat) (hj : j < 10) (h1 : 1 ≤ i) (h2 : 1 ≤ j) (h3 : ¬ i = j) : ¬ wJS i = wJS j := by
  rcases jne0 i hi j hj with q | q
  · omega
  · exact q
theorem RD_cyc (r : RD l n S T D) (W : WS S) (N : NM3 S) (h6 : sng S < 6) {v : Nat} (v1 : 1 ≤ v) (v8 : v ≤ 8) : RD ((((l ++ wJS 15) ++ [97 + sng S]) ++ wJS 19) ++ [48 + v]) (n + 1) (gS S (gCyc v)) T D := by
  have e : (((l ++ wJS 15) ++ [97 + sng S]) ++ wJS 19) ++ [48 + v] = l ++ ([59] ++ (wJS 2 ++ prS [(1, [103, 97 + sng S]), (1, wJS 3), (2, [48 + v])])) := by
    rw [show wJS 15 = [59] ++ (wJS 2 ++ [32, 103]) from by decide +kernel, show wJS 19 = [32] ++ (wJS 3 ++ [32]) from by decide +kernel]
    simp [prS]
  rw [e]
  refine RD_grp r W N h6 (fun x hx => ?_) rfl (by simp) (fun B t hw hs => ?_)
  · simp only [List.mem_cons, List.not_mem_nil, or_false] at hx
    rcases hx with rfl | rfl | rfl
    · exact okN (by omega) (by omega) (by omega)
    · exact okW (by omega) (by omega)
    · exact okD (by omega)
  · have q1 : isT B (nxn B t 2) (1, wJS 3) := hs 1 (by simp)
    have q2 : isT B (nxn B t 3) (2, [48 + v]) := hs 2 (by simp)
    have qv : vlT B (nx B (nxn B t 2)) = v := q2.2.2 v (by omega) rfl
    refine ⟨?_, ?_, ?_⟩
    · unfold eGk
      rw [if_pos (isW_t q1)]
      exact eNu_n q2.1 (by rw [qv]; exact v1) (by rw [qv]; exact v8)
    · unfold gGk
      rw [if_pos (isW_t q1), qv]
    · unfold tGk
      rw [if_pos (isW_t q1)]
      rfl
theorem RD_dih (r : RD l n S T D) (W : WS S) (N : NM3 S) (h6 : sng S < 6) : RD (((l ++ wJS 15) ++ [97 + sng S]) ++ wJS 16) (n + 1) (gS S (gDih 3)) T D := by
  have e : ((l ++ wJS 15) ++ [97 + sng S]) ++ wJS 16 = l ++ ([59] ++ (wJS 2 ++ prS [(1, [103, 97 + sng S]), (1, wJS 4), (2, [51])])) := by
    rw [show wJS 15 = [59] ++ (wJS 2 ++ [32, 103]) from by decide +kernel, show wJS 16 = [32] ++ (wJS 4 ++ [32, 51]) from by decide +kernel]
    simp [prS]
  rw [e]
  refine RD_grp r W N h6 (fun x hx => ?_) rfl (by simp) (fun B t hw hs => ?_)
  · simp only [List.mem_cons, List.not_mem_nil, or_false] at hx
    rcases hx with rfl | rfl | rfl
    · exact okN (by omega) (by omega) (by omega)
    · exact okW (by omega) (by omega)
    · exact okD (v := 3) (by omega)
  · have q1 : isT B (nxn B t 2) (1, wJS 4) := hs 1 (by simp)
    have q2 : isT B (nxn B t 3) (2, [48 + 3]) := hs 2 (by simp)
    have qv : vlT B (nx B (nxn B t 2)) = 3 := q2.2.2 3 (by omega) rfl
    have n3 : isW B (nxn B t 2) 3 = false := isW_n q1 (jne 4 (by omega) 3 (by omega) (by omega) (by omega) (by omega))
    refine ⟨?_, ?_, ?_⟩
    · unfold eGk
      rw [n3, if_neg (by decide), if_pos (isW_t q1)]
      exact eNu_n q2.1 (by rw [qv]; omega) (by rw [qv]; omega)
    · unfold gGk
      rw [n3, if_neg (by decide), if_pos (isW_t q1), qv]
    · unfold tGk
      rw [n3, if_neg (by decide), if_pos (isW_t q1)]
      rfl
theorem RD_qua (r : RD l n S T D) (W : WS S) (N : NM3 S) (h6 : sng S < 6) : RD (((l ++ wJS 15) ++ [97 + sng S]) ++ wJS 18) (n + 1) (gS S gQua) T D := by
  have e : ((l ++ wJS 15) ++ [97 + sng S]) ++ wJS 18 = l ++ ([59] ++ (wJS 2 ++ prS [(1, [103, 97 + sng S]), (1, wJS 5)])) := by
    rw [show wJS 15 = [59] ++ (wJS 2 ++ [32, 103]) from by decide +kernel, show wJS 18 = [32] ++ wJS 5 from by decide +kernel]
    simp [prS]
  rw [e]
  refine RD_grp r W N h6 (fun x hx => ?_) rfl (by simp) (fun B t hw hs => ?_)
  · simp only [List.mem_cons, List.not_mem_nil, or_false] at hx
    rcases hx with rfl | rfl
    · exact okN (by omega) (by omega) (by omega)
    · exact okW (by omega) (by omega)
  · have q1 : isT B (nxn B t 2) (1, wJS 5) := hs 1 (by simp)
    have n3 : isW B (nxn B t 2) 3 = false := isW_n q1 (jne 5 (by omega) 3 (by omega) (by omega) (by omega) (by omega))
    have n4 : isW B (nxn B t 2) 4 = false := isW_n q1 (jne 5 (by omega) 4 (by omega) (by omega) (by omega) (by omega))
    refine ⟨?_, ?_, ?_⟩
    · unfold eGk
      rw [n3, if_neg (by decide), n4, if_neg (by decide), if_pos (isW_t q1)]
    · unfold gGk
      rw [n3, if_neg (by decide), n4, if_neg (by decide), if_pos (isW_t q1)]
    · unfold tGk
      rw [n3, if_neg (by decide), n4, if_neg (by decide), if_pos (isW_t q1)]
      rfl
theorem RD_pro (r : RD l n S T D) (W : WS S) (N : NM3 S) (h6 : sng S < 6) (h0 : 0 < sng S) (h8 : sgn S 0 * sgn S 0 ≤ 8) : RD (((l ++ wJS 15) ++ [97 + sng S]) ++ wJS 17) (n + 1) (gS S (gPro S 0 0)) T D := by
  have e : ((l ++ wJS 15) ++ [97 + sng S]) ++ wJS 17 = l ++ ([59] ++ (wJS 2 ++ prS [(1, [103, 97 + sng S]), (1, wJS 6), (1, [103, 97]), (1, [103, 97])])) := by
    rw [show wJS 15 = [59] ++ (wJS 2 ++ [32, 103]) from by decide +kernel, show wJS 17 = [32] ++ (wJS 6 ++ [32, 103, 97, 32, 103, 97]) from by decide +kernel]
    simp [prS]
  rw [e]
  refine RD_grp r W N h6 (fun x hx => ?_) rfl (by simp) (fun B t hw hs => ?_)
  · simp only [List.mem_cons, List.not_mem_nil, or_false] at hx
    rcases hx with rfl | rfl | rfl | rfl
    · exact okN (by omega) (by omega) (by omega)
    · exact okW (by omega) (by omega)
    · exact okN (k := 0) (by omega) (by omega) (by omega)
    · exact okN (k := 0) (by omega) (by omega) (by omega)
  · have q1 : isT B (nxn B t 2) (1, wJS 6) := hs 1 (by simp)
    have q2 : isT B (nxn B t 3) (1, [103, 97 + 0]) := hs 2 (by simp)
    have q3 : isT B (nxn B t 4) (1, [103, 97 + 0]) := hs 3 (by simp)
    have n3 : isW B (nxn B t 2) 3 = false := isW_n q1 (jne 6 (by omega) 3 (by omega) (by omega) (by omega) (by omega))
    have n4 : isW B (nxn B t 2) 4 = false := isW_n q1 (jne 6 (by omega) 4 (by omega) (by omega) (by omega) (by omega))
    have n5 : isW B (nxn B t 2) 5 = false := isW_n q1 (jne 6 (by omega) 5 (by omega) (by omega) (by omega) (by omega))
    have i2 : nmI S 0 (wdT B (nx B (nxn B t 2))) = 0 := by
      rw [show wdT B (nx B (nxn B t 2)) = [103, 97 + 0] from q2.2.1 rfl]
      exact nmI_v (s := 0) N.1 (Nat.zero_le _)
    have i3 : nmI S 0 (wdT B (nx B (nx B (nxn B t 2)))) = 0 := by
      rw [show wdT B (nx B (nx B (nxn B t 2))) = [103, 97 + 0] from q3.2.1 rfl]
      exact nmI_v (s := 0) N.1 (Nat.zero_le _)
    have s0 : scn S 0 = sng S := rfl
    refine ⟨?_, ?_, ?_⟩
    · unfold eGk
      rw [n3, if_neg (by decide), n4, if_neg (by decide), n5, if_neg (by decide), if_pos (isW_t q1), eKn_n (S := S) (s := 0) (t := nx B (nxn B t 2)) q2.1 (by rw [i2, s0]; exact h0), eo_n, eKn_n (S := S) (s := 0) (t := nx B (nx B (nxn B t 2))) q3.1 (by rw [i3, s0]; exact h0), eo_n, i2, i3, decide_eq_false (by omega)]
      rfl
    · unfold gGk
      rw [n3, if_neg (by decide), n4, if_neg (by decide), n5, if_neg (by decide), i2, i3]
    · unfold tGk
      rw [n3, if_neg (by decide), n4, if_neg (by decide), n5, if_neg (by decide)]
      rfl
end LI2
