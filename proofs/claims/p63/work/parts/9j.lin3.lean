/-! The law's text: modules, acts, arrows. -/
set_option linter.unusedVariables false
section LI3
variable {B : BF} {l : List Nat} {n : Nat} {S S' : SD} {T T' T2 : ST} {D D' : Nat → Int32}
theorem nu_8 (W : WS S) {m : Nat} (hm : m < snm S) : (0 < nuS S m ∧ nuS S m ≤ 8) ∧ 0 < nlS2 S m ∧ nlS2 S m ≤ 8 := ⟨(W.2.1 _ (W.2.2.1 m hm).1).1, (W.2.1 _ (W.2.2.1 m hm).2).1⟩
theorem mS_o {u lo m : Nat} (h : ¬ m = snm S) : smu (mS S u lo) m = smu S m ∧ sml (mS S u lo) m = sml S m := sAm_o h
theorem mS_n {u lo : Nat} : smu (mS S u lo) (snm S) = u ∧ sml (mS S u lo) (snm S) = lo := sAm_n
theorem mS_nu {u lo m : Nat} : nuS (mS S u lo) m = if m = snm S then sgn S u else nuS S m := by
  unfold nuS
  by_cases e : m = snm S
  · rw [if_pos e, e, mS_n.1]; rfl
  · rw [if_neg e, (mS_o e).1]; rfl
theorem mS_nl {u lo m : Nat} : nlS2 (mS S u lo) m = if m = snm S then sgn S lo else nlS2 S m := by
  unfold nlS2
  by_cases e : m = snm S
  · rw [if_pos e, e, mS_n.2]; rfl
  · rw [if_neg e, (mS_o e).2]; rfl
theorem TE_m (W : WS S) (te : TE S T T') {u lo : Nat} {f f' : Nat → Nat} (hf : ∀ a, a < sgn S u → f a = f' a) : TE (mS S u lo) (Tmd S T f) (Tmd S T' f') := by
  obtain ⟨t1, t2, t3, t4, t5⟩ := te
  refine ⟨fun m a hm ha => ?_, fun m g a hm hg ha => ?_, fun a x ha hx => ?_, fun a x ha hx => ?_, t5⟩
  · have hm : m < snm S + 1 := hm
    rw [mS_nu] at ha
    show (if m = snm S then f a else tbd T m a) = if m = snm S then f' a else tbd T' m a
    by_cases e : m = snm S
    · rw [if_pos e] at ha
      rw [if_pos e, if_pos e]; exact hf a ha
    · rw [if_neg e] at ha
      rw [if_neg e, if_neg e]; exact t1 m a (by omega) ha
  · have hm : m < snm S + 1 := hm
    rw [mS_nu] at ha
    rw [mS_nl] at hg
    show (if m = snm S then a else tac T m g a) = if m = snm S then a else tac T' m g a
    by_cases e : m = snm S
    · rw [if_pos e, if_pos e]
    · rw [if_neg e] at ha hg
      rw [if_neg e, if_neg e]; exact t2 m g a (by omega) hg ha
  · have ha : a < sna S := ha
    have r := W.2.2.2 a ha
    have hx : x < nuS (mS S u lo) (saf S a) := hx
    rw [mS_nu, if_neg (by omega)] at hx
    exact t3 a x ha hx
  · have ha : a < sna S := ha
    have r := W.2.2.2 a ha
    have hx : x < nlS2 (mS S u lo) (saf S a) := hx
    rw [mS_nl, if_neg (by omega)] at hx
    exact t4 a x ha hx
theorem WS_m (W : WS S) (h6 : snm S < 6) {u lo : Nat} (hu : u < sng S) (hl : lo < sng S) : WS (mS S u lo) := by
  obtain ⟨⟨w1, w2, w3⟩, w4, w5, w6⟩ := W
  refine ⟨⟨w1, by show snm S + 1 ≤ 6; omega, w3⟩, w4, fun m hm => ?_, fun a ha => ?_⟩
  · have hm : m < snm S + 1 := hm
    by_cases e : m = snm S
    · rw [e, mS_n.1, mS_n.2]; exact ⟨hu, hl⟩
    · rw [(mS_o e).1, (mS_o e).2]; exact w5 m (by omega)
  · have := w6 a ha
    show saf S a < snm S + 1 ∧ sao S a < snm S + 1
    omega
theorem NM3_m (N : NM3 S) {u lo : Nat} : NM3 (mS S u lo) := by
  obtain ⟨n1, n2, n3⟩ := N
  refine ⟨fun k hk => ?_, fun m hm => ?_, fun a ha => ?_⟩
  · show (if (0 : Nat) = 1 ∧ k = scn S 1 then [109, 97 + snm S] else snn S 0 k) = _
    rw [if_neg (fun z => absurd z.1 (by decide))]; exact n1 k hk
  · have hm : m < snm S + 1 := hm
    show (if (1 : Nat) = 1 ∧ m = snm S then [109, 97 + snm S] else snn S 1 m) = _
    by_cases e : m = snm S
    · rw [if_pos ⟨rfl, e⟩, e]
    · rw [if_neg (fun z => e z.2)]; exact n2 m (by omega)
  · show (if (2 : Nat) = 1 ∧ a = scn S 1 then [109, 97 + snm S] else snn S 2 a) = _
    rw [if_neg (fun z => absurd z.1 (by decide))]; exact n3 a ha
theorem RD_mod (r : RD l n S T D) (W : WS S) (N : NM3 S) (h6 : snm S < 6) {u lo : Nat} (hu : u < sng S) (hl : lo < sng S) {f : Nat → Nat} (hf : ∀ a, a < sgn S u → f a < sgn S lo) : RD (dgT f ((((((l ++ wJS 20) ++ [97 + snm S]) ++ wJS 21) ++ [97 + u]) ++ wJS 21) ++ [97 + lo]) (sgn S u)) (n + 1) (mS S u lo) (Tmd S T f) (fun m => if m = snm S then 0 else D m) := by
  have g6 := W.1.1
  have u8 := (W.2.1 u hu).1
  have l8 := (W.2.1 lo hl).1
  have e : dgT f ((((((l ++ wJS 20) ++ [97 + snm S]) ++ wJS 21) ++ [97 + u]) ++ wJS 21) ++ [97 + lo]) (sgn S u) = l ++ ([59] ++ (wJS 7 ++ prS ([(1, [109, 97 + snm S]), (1, [103, 97 + u]), (1, [103, 97 + lo])] ++ dsL f (sgn S u)))) := by
    rw [dgT_eq, prS_app, show wJS 20 = [59] ++ (wJS 7 ++ [32, 109]) from by decide +kernel, show wJS 21 = [32, 103] from by decide +kernel]
    simp [prS]
  rw [e]
  refine RD_line r (w := (1, wJS 7)) (okW (by omega) (by omega)) (fun x hx => ?_) (fun B t T' te hw hs => ?_)
  · rw [List.mem_append] at hx
    rcases hx with hx | hx
    · simp only [List.mem_cons, List.not_mem_nil, or_false] at hx
      rcases hx with rfl | rfl | rfl
      · exact okN (by omega) (by omega) (by omega)
      · exact okN (by omega) (by omega) (by omega)
      · exact okN (by omega) (by omega) (by omega)
    · exact dsL_ok (fun j hj => by have := hf j hj; omega) x hx
  · have wl : ([(1, [109, 97 + snm S]), (1, [103, 97 + u]), (1, [103, 97 + lo])] ++ dsL f (sgn S u) : List (Nat × List Nat)).length = 3 + sgn S u := by
      rw [List.length_append, dsL_len]; rfl
    rw [wl] at hs ⊢
    have q1 : isT B (nx B t) (1, [109, 97 + snm S]) := hs 0 (by omega)
    have q2 : isT B (nxn B t 2) (1, [103, 97 + u]) := hs 1 (by omega)
    have q3 : isT B (nxn B t 3) (1, [103, 97 + lo]) := hs 2 (by omega)
    have qd : ∀ i, i < sgn S u → isT B (nxn B t (4 + i)) (2, [48 + f i]) := fun i hi => by
      have q := hs (i + 3) (by omega)
      rw [show ([(1, [109, 97 + snm S]), (1, [103, 97 + u]), (1, [103, 97 + lo])] ++ dsL f (sgn S u) : List (Nat × List Nat)).getD (i + 3) (0, []) = (dsL f (sgn S u)).getD i (0, []) from rfl, dsL_get hi, show i + 3 + 1 = 4 + i by omega] at q
      exact q
    have w1 : wdT B (nx B t) = [109, 97 + snm S] := q1.2.1 rfl
    have i2 : nmI S 0 (wdT B (nxn B t 2)) = u := by
      rw [show wdT B (nxn B t 2) = [103, 97 + u] from q2.2.1 rfl]
      exact nmI_v (s := 0) N.1 (Nat.le_of_lt hu)
    have i3 : nmI S 0 (wdT B (nxn B t 3)) = lo := by
      rw [show wdT B (nxn B t 3) = [103, 97 + lo] from q3.2.1 rfl]
      exact nmI_v (s := 0) N.1 (Nat.le_of_lt hl)
    have n2 : isW B t 2 = false := isW_n hw (jne 7 (by omega) 2 (by omega) (by omega) (by omega) (by omega))
    have tl : ∀ i, i < sgn S u → tEl B (nxn B t 4) i = f i := fun i hi => by
      show vlT B (nxn B (nxn B t 4) i) = f i
      rw [nxn_add]
      exact (qd i hi).2.2 (f i) (by have := hf i hi; omega) rfl
    refine ⟨Tmd S T' (tEl B (nxn B t 4)), TE_m W te (fun a ha => (tl a ha).symm), ?_, ?_⟩
    · show (if isW B t 2 = true then _ else if isW B t 7 = true then eMl B S t else _) = none
      rw [n2, if_neg (by decide), if_pos (isW_t hw)]
      unfold eMl
      rw [show ck (decide (snm S = 6)) 4 t = none from by rw [decide_eq_false (by omega)]; rfl, eo_n, eNm_n (S := S) (s := 1) q1.1 (by rw [w1]; exact nmI_v (s := 1) N.2.1 (Nat.le_refl _)), eo_n, eKn_n (S := S) (s := 0) q2.1 (by rw [i2]; exact hu), eo_n, eKn_n (S := S) (s := 0) q3.1 (by rw [i3]; exact hl), eo_n, i2, i3]
      refine eEl_n _ (fun i hi => ?_)
      have := tl i hi
      have h1 := hf i hi
      rw [nxn_add] at *
      refine ⟨(qd i hi).1, ?_⟩
      rw [(qd i hi).2.2 (f i) (by omega) rfl]
      omega
    · show (if isW B t 2 = true then _ else if isW B t 7 = true then nMl B S T' D t else _) = _
      rw [n2, if_neg (by decide), if_pos (isW_t hw)]
      unfold nMl
      rw [w1, i2, i3, nxn_add, show 4 + sgn S u = 3 + sgn S u + 1 by omega]
      rfl
theorem TE_al (te : TE S T T') {m g : Nat} {f f' : Nat → Nat} (hf : ∀ a, a < nuS S m → f a = f' a) : TE S (Tal T m g f) (Tal T' m g f') := by
  obtain ⟨t1, t2, t3, t4, t5⟩ := te
  refine ⟨t1, fun m' g' a hm hg ha => ?_, t3, t4, t5⟩
  show (if m' = m ∧ g' = g then f a else tac T m' g' a) = if m' = m ∧ g' = g then f' a else tac T' m' g' a
  by_cases e : m' = m ∧ g' = g
  · rw [if_pos e, if_pos e]; exact hf a (by rw [← e.1]; exact ha)
  · rw [if_neg e, if_neg e]; exact t2 m' g' a hm hg ha
theorem RD_act (r : RD l n S T D) (W : WS S) (N : NM3 S) {m g : Nat} (hm : m < snm S) (hg : g < nlS2 S m) (hD : mb (D m) g = false) {f : Nat → Nat} (hf : ∀ a, a < nuS S m → f a < nuS S m) : RD (dgT f ((((l ++ wJS 22) ++ [97 + m]) ++ [32]) ++ [48 + g]) (nuS S m)) (n + 1) S (Tal T m g f) (fun k => if k = m then D k ||| sh g else D k) := by
  have m6 := W.1.2.1
  obtain ⟨u8, l8⟩ := nu_8 W hm
  have e : dgT f ((((l ++ wJS 22) ++ [97 + m]) ++ [32]) ++ [48 + g]) (nuS S m) = l ++ ([59] ++ (wJS 8 ++ prS ([(1, [109, 97 + m]), (2, [48 + g])] ++ dsL f (nuS S m)))) := by
    rw [dgT_eq, prS_app, show wJS 22 = [59] ++ (wJS 8 ++ [32, 109]) from by decide +kernel]
    simp [prS]
  rw [e]
  refine RD_line r (w := (1, wJS 8)) (okW (by omega) (by omega)) (fun x hx => ?_) (fun B t T' te hw hs => ?_)
  · rw [List.mem_append] at hx
    rcases hx with hx | hx
    · simp only [List.mem_cons, List.not_mem_nil, or_false] at hx
      rcases hx with rfl | rfl
      · exact okN (by omega) (by omega) (by omega)
      · exact okD (by omega)
    · exact dsL_ok (fun j hj => by have := hf j hj; omega) x hx
  · have wl : ([(1, [109, 97 + m]), (2, [48 + g])] ++ dsL f (nuS S m) : List (Nat × List Nat)).length = 2 + nuS S m := by
      rw [List.length_append, dsL_len]; rfl
    rw [wl] at hs ⊢
    have q1 : isT B (nx B t) (1, [109, 97 + m]) := hs 0 (by omega)
    have q2 : isT B (nxn B t 2) (2, [48 + g]) := hs 1 (by omega)
    have qd : ∀ i, i < nuS S m → isT B (nxn B t (3 + i)) (2, [48 + f i]) := fun i hi => by
      have q := hs (i + 2) (by omega)
      rw [show ([(1, [109, 97 + m]), (2, [48 + g])] ++ dsL f (nuS S m) : List (Nat × List Nat)).getD (i + 2) (0, []) = (dsL f (nuS S m)).getD i (0, []) from rfl, dsL_get hi, show i + 2 + 1 = 3 + i by omega] at q
      exact q
    have i1 : mAl B S t = m := by
      unfold mAl
      rw [show wdT B (nx B t) = [109, 97 + m] from q1.2.1 rfl]
      exact nmI_v (s := 1) N.2.1 (Nat.le_of_lt hm)
    have v2 : vlT B (nxn B t 2) = g := q2.2.2 g (by omega) rfl
    have n2 : isW B t 2 = false := isW_n hw (jne 8 (by omega) 2 (by omega) (by omega) (by omega) (by omega))
    have n7 : isW B t 7 = false := isW_n hw (jne 8 (by omega) 7 (by omega) (by omega) (by omega) (by omega))
    have tl : ∀ i, i < nuS S m → tEl B (nxn B t 3) i = f i := fun i hi => by
      show vlT B (nxn B (nxn B t 3) i) = f i
      rw [nxn_add]
      exact (qd i hi).2.2 (f i) (by have := hf i hi; omega) rfl
    refine ⟨Tal T' m g (tEl B (nxn B t 3)), TE_al te (fun a ha => (tl a ha).symm), ?_, ?_⟩
    · show (if isW B t 2 = true then _ else if isW B t 7 = true then _ else if isW B t 8 = true then eAl B S D t else _) = none
      rw [n2, if_neg (by decide), n7, if_neg (by decide), if_pos (isW_t hw)]
      unfold eAl
      rw [i1, v2, hD, eKn_n (S := S) (s := 1) q1.1 (by show mAl B S t < snm S; rw [i1]; exact hm), eo_n, eNu_n q2.1 (Nat.zero_le _) (by rw [v2]; omega), eo_n, show ck false 3 (nxn B t 2) = none from rfl, eo_n]
      refine eEl_n _ (fun i hi => ?_)
      have h1 := hf i hi
      rw [nxn_add]
      refine ⟨(qd i hi).1, ?_⟩
      rw [(qd i hi).2.2 (f i) (by omega) rfl]
      omega
    · show (if isW B t 2 = true then _ else if isW B t 7 = true then _ else if isW B t 8 = true then nAl B S T' D t else _) = _
      rw [n2, if_neg (by decide), n7, if_neg (by decide), if_pos (isW_t hw)]
      unfold nAl
      rw [i1, v2, nxn_add, show 3 + nuS S m = 2 + nuS S m + 1 by omega]
      rfl
theorem aS_o {f o a : Nat} (h : ¬ a = sna S) : saf (aS S f o) a = saf S a ∧ sao (aS S f o) a = sao S a := sAa_o h
theorem aS_n {f o : Nat} : saf (aS S f o) (sna S) = f ∧ sao (aS S f o) (sna S) = o := sAa_n
theorem TE_a (W : WS S) (te : TE S T T') {f o : Nat} {p p' q q' : Nat → Nat} (hp : ∀ x, x < nuS S f → p x = p' x) (hq : ∀ x, x < nlS2 S f → q x = q' x) : TE (aS S f o) (Tar S T p q) (Tar S T' p' q') := by
  obtain ⟨t1, t2, t3, t4, t5⟩ := te
  refine ⟨t1, t2, fun a x ha hx => ?_, fun a x ha hx => ?_, t5⟩
  · have ha : a < sna S + 1 := ha
    have hx : x < nuS S (saf (aS S f o) a) := hx
    show (if a = sna S then p x else ttp T a x) = if a = sna S then p' x else ttp T' a x
    by_cases e : a = sna S
    · rw [e, aS_n.1] at hx
      rw [if_pos e, if_pos e]; exact hp x hx
    · rw [(aS_o e).1] at hx
      rw [if_neg e, if_neg e]; exact t3 a x (by omega) hx
  · have ha : a < sna S + 1 := ha
    have hx : x < nlS2 S (saf (aS S f o) a) := hx
    show (if a = sna S then q x else tbt T a x) = if a = sna S then q' x else tbt T' a x
    by_cases e : a = sna S
    · rw [e, aS_n.1] at hx
      rw [if_pos e, if_pos e]; exact hq x hx
    · rw [(aS_o e).1] at hx
      rw [if_neg e, if_neg e]; exact t4 a x (by omega) hx
theorem WS_a (W : WS S) (h8 : sna S < 8) {f o : Nat} (hf : f < snm S) (ho : o < snm S) : WS (aS S f o) := by
  obtain ⟨⟨w1, w2, w3⟩, w4, w5, w6⟩ := W
  refine ⟨⟨w1, w2, by show sna S + 1 ≤ 8; omega⟩, w4, w5, fun a ha => ?_⟩
  have ha : a < sna S + 1 := ha
  by_cases e : a = sna S
  · rw [e, aS_n.1, aS_n.2]; exact ⟨hf, ho⟩
  · rw [(aS_o e).1, (aS_o e).2]; exact w6 a (by omega)
theorem NM3_a (N : NM3 S) {f o : Nat} : NM3 (aS S f o) := by
  obtain ⟨n1, n2, n3⟩ := N
  refine ⟨fun k hk => ?_, fun m hm => ?_, fun a ha => ?_⟩
  · show (if (0 : Nat) = 2 ∧ k = scn S 2 then [97, 97 + sna S] else snn S 0 k) = _
    rw [if_neg (fun z => absurd z.1 (by decide))]; exact n1 k hk
  · show (if (1 : Nat) = 2 ∧ m = scn S 2 then [97, 97 + sna S] else snn S 1 m) = _
    rw [if_neg (fun z => absurd z.1 (by decide))]; exact n2 m hm
  · have ha : a < sna S + 1 := ha
    show (if (2 : Nat) = 2 ∧ a = sna S then [97, 97 + sna S] else snn S 2 a) = _
    by_cases e : a = sna S
    · rw [if_pos ⟨rfl, e⟩, e]
    · rw [if_neg (fun z => e z.2)]; exact n3 a (by omega)
theorem dsL_app {p q : Nat → Nat} {nu nl i : Nat} (h : i < nl) : (dsL p nu ++ dsL q nl).getD (nu + i) (0, []) = (2, [48 + q i]) := by
  rw [← dsL_get (f := q) h]
  simp only [List.getD_eq_getElem?_getD]
  rw [List.getElem?_append_right (by rw [dsL_len]; omega), dsL_len, Nat.add_sub_cancel_left]
theorem dsL_apl {p q : Nat → Nat} {nu nl i : Nat} (h : i < nu) : (dsL p nu ++ dsL q nl).getD i (0, []) = (2, [48 + p i]) := by
  rw [← dsL_get (f := p) h]
  simp only [List.getD_eq_getElem?_getD]
  rw [List.getElem?_append_left (by rw [dsL_len]; exact h)]
theorem RD_arr (r : RD l n S T D) (W : WS S) (N : NM3 S) (h8 : sna S < 8) {f o : Nat} (hf : f < snm S) (ho : o < snm S) {p q : Nat → Nat} (hp : ∀ x, x < nuS S f → p x < nuS S o) (hq : ∀ x, x < nlS2 S f → q x < nlS2 S o) : RD (dgT q (dgT p ((((((l ++ wJS 23) ++ [97 + sna S]) ++ wJS 24) ++ [97 + f]) ++ wJS 24) ++ [97 + o]) (nuS S f)) (nlS2 S f)) (n + 1) (aS S f o) (Tar S T p q) D := by
  have m6 := W.1.2.1
  obtain ⟨u8, l8⟩ := nu_8 W hf
  obtain ⟨v8, k8⟩ := nu_8 W ho
  have e : dgT q (dgT p ((((((l ++ wJS 23) ++ [97 + sna S]) ++ wJS 24) ++ [97 + f]) ++ wJS 24) ++ [97 + o]) (nuS S f)) (nlS2 S f) = l ++ ([59] ++ (wJS 9 ++ prS ([(1, [97, 97 + sna S]), (1, [109, 97 + f]), (1, [109, 97 + o])] ++ (dsL p (nuS S f) ++ dsL q (nlS2 S f))))) := by
    rw [dgT_eq, dgT_eq, prS_app, prS_app, show wJS 23 = [59] ++ (wJS 9 ++ [32, 97]) from by decide +kernel, show wJS 24 = [32, 109] from by decide +kernel]
    simp [prS]
  rw [e]
  refine RD_line r (w := (1, wJS 9)) (okW (by omega) (by omega)) (fun x hx => ?_) (fun B t T' te hw hs => ?_)
  · rw [List.mem_append, List.mem_append] at hx
    rcases hx with hx | hx | hx
    · simp only [List.mem_cons, List.not_mem_nil, or_false] at hx
      rcases hx with rfl | rfl | rfl
      · exact okN (by omega) (by omega) (by omega)
      · exact okN (by omega) (by omega) (by omega)
      · exact okN (by omega) (by omega) (by omega)
    · exact dsL_ok (fun j hj => by have := hp j hj; omega) x hx
    · exact dsL_ok (fun j hj => by have := hq j hj; omega) x hx
  · have wl : ([(1, [97, 97 + sna S]), (1, [109, 97 + f]), (1, [109, 97 + o])] ++ (dsL p (nuS S f) ++ dsL q (nlS2 S f)) : List (Nat × List Nat)).length = 3 + nuS S f + nlS2 S f := by
      rw [List.length_append, List.length_append, dsL_len, dsL_len, ← Nat.add_assoc]; rfl
    rw [wl] at hs ⊢
    have q1 : isT B (nx B t) (1, [97, 97 + sna S]) := hs 0 (by omega)
    have q2 : isT B (nxn B t 2) (1, [109, 97 + f]) := hs 1 (by omega)
    have q3 : isT B (nxn B t 3) (1, [109, 97 + o]) := hs 2 (by omega)
    have qp : ∀ i, i < nuS S f → isT B (nxn B t (4 + i)) (2, [48 + p i]) := fun i hi => by
      have y := hs (i + 3) (by omega)
      rw [show ([(1, [97, 97 + sna S]), (1, [109, 97 + f]), (1, [109, 97 + o])] ++ (dsL p (nuS S f) ++ dsL q (nlS2 S f)) : List (Nat × List Nat)).getD (i + 3) (0, []) = (dsL p (nuS S f) ++ dsL q (nlS2 S f)).getD i (0, []) from rfl, dsL_apl hi, show i + 3 + 1 = 4 + i by omega] at y
      exact y
    have qq : ∀ i, i < nlS2 S f → isT B (nxn B t (4 + nuS S f + i)) (2, [48 + q i]) := fun i hi => by
      have y := hs (nuS S f + i + 3) (by omega)
      rw [show ([(1, [97, 97 + sna S]), (1, [109, 97 + f]), (1, [109, 97 + o])] ++ (dsL p (nuS S f) ++ dsL q (nlS2 S f)) : List (Nat × List Nat)).getD (nuS S f + i + 3) (0, []) = (dsL p (nuS S f) ++ dsL q (nlS2 S f)).getD (nuS S f + i) (0, []) from rfl, dsL_app hi, show nuS S f + i + 3 + 1 = 4 + nuS S f + i by omega] at y
      exact y
    have w1 : wdT B (nx B t) = [97, 97 + sna S] := q1.2.1 rfl
    have i2 : fRl B S t = f := by
      unfold fRl
      rw [show wdT B (nxn B t 2) = [109, 97 + f] from q2.2.1 rfl]
      exact nmI_v (s := 1) N.2.1 (Nat.le_of_lt hf)
    have i3 : oRl B S t = o := by
      unfold oRl
      rw [show wdT B (nxn B t 3) = [109, 97 + o] from q3.2.1 rfl]
      exact nmI_v (s := 1) N.2.1 (Nat.le_of_lt ho)
    have n2 : isW B t 2 = false := isW_n hw (jne 9 (by omega) 2 (by omega) (by omega) (by omega) (by omega))
    have n7 : isW B t 7 = false := isW_n hw (jne 9 (by omega) 7 (by omega) (by omega) (by omega) (by omega))
    have n8 : isW B t 8 = false := isW_n hw (jne 9 (by omega) 8 (by omega) (by omega) (by omega) (by omega))
    have tp : ∀ i, i < nuS S f → tEl B (nxn B t 4) i = p i := fun i hi => by
      show vlT B (nxn B (nxn B t 4) i) = p i
      rw [nxn_add]
      exact (qp i hi).2.2 (p i) (by have := hp i hi; omega) rfl
    have tq : ∀ i, i < nlS2 S f → tEl B (nxn B (nxn B t 4) (nuS S f)) i = q i := fun i hi => by
      show vlT B (nxn B (nxn B (nxn B t 4) (nuS S f)) i) = q i
      rw [nxn_add, nxn_add, ← Nat.add_assoc]
      exact (qq i hi).2.2 (q i) (by have := hq i hi; omega) rfl
    refine ⟨Tar S T' (tEl B (nxn B t 4)) (tEl B (nxn B (nxn B t 4) (nuS S f))), TE_a W te (fun x hx => (tp x hx).symm) (fun x hx => (tq x hx).symm), ?_, ?_⟩
    · show (if isW B t 2 = true then _ else if isW B t 7 = true then _ else if isW B t 8 = true then _ else if isW B t 9 = true then eRl B S t else _) = none
      rw [n2, if_neg (by decide), n7, if_neg (by decide), n8, if_neg (by decide), if_pos (isW_t hw)]
      unfold eRl
      rw [i2, i3, show ck (decide (sna S = 8)) 4 t = none from by rw [decide_eq_false (by omega)]; rfl, eo_n, eNm_n (S := S) (s := 2) q1.1 (by rw [w1]; exact nmI_v (s := 2) N.2.2 (Nat.le_refl _)), eo_n, eKn_n (S := S) (s := 1) q2.1 (by show fRl B S t < snm S; rw [i2]; exact hf), eo_n, eKn_n (S := S) (s := 1) q3.1 (by show oRl B S t < snm S; rw [i3]; exact ho), eo_n, eEl_n (nuS S f) (fun i hi => by
        have h1 := hp i hi
        rw [nxn_add]
        refine ⟨(qp i hi).1, ?_⟩
        rw [(qp i hi).2.2 (p i) (by omega) rfl]
        omega), eo_n]
      refine eEl_n _ (fun i hi => ?_)
      have h1 := hq i hi
      rw [nxn_add, nxn_add, ← Nat.add_assoc]
      refine ⟨(qq i hi).1, ?_⟩
      rw [(qq i hi).2.2 (q i) (by omega) rfl]
      omega
    · show (if isW B t 2 = true then _ else if isW B t 7 = true then _ else if isW B t 8 = true then _ else nRl B S T' D t) = _
      rw [n2, if_neg (by decide), n7, if_neg (by decide), n8, if_neg (by decide)]
      unfold nRl
      rw [i2, i3, w1]
      show (nxn B (nxn B (nxn B t 4) (nuS S f)) (nlS2 S f), _, _, _) = _
      rw [nxn_add (nxn B t 4), nxn_add, show 4 + (nuS S f + nlS2 S f) = 3 + nuS S f + nlS2 S f + 1 by omega]
      rfl
end LI3
