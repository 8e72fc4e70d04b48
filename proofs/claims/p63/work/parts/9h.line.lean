/-! The law's text: its lines. -/
set_option linter.unusedVariables false
/-- T and T' are the same where S says that there is something -/
def TE (S : SD) (T T' : ST) : Prop := (∀ m a, m < snm S → a < nuS S m → tbd T m a = tbd T' m a) ∧ (∀ m g a, m < snm S → g < nlS2 S m → a < nuS S m → tac T m g a = tac T' m g a) ∧ (∀ a x, a < sna S → x < nuS S (saf S a) → ttp T a x = ttp T' a x) ∧ (∀ a x, a < sna S → x < nlS2 S (saf S a) → tbt T a x = tbt T' a x) ∧ ∀ k, tcc T k = tcc T' k
theorem TE_refl (S : SD) (T : ST) : TE S T T := ⟨fun _ _ _ _ => rfl, fun _ _ _ _ _ _ => rfl, fun _ _ _ _ => rfl, fun _ _ _ _ => rfl, fun _ => rfl⟩
/-- l is read to n lines, which tell S, T and D, whatever line comes behind -/
def RD (l : List Nat) (n : Nat) (S : SD) (T : ST) (D : Nat → Int32) : Prop := ∀ B : BF, Az B 0 l → (B.2 = l.length ∨ (l.length < B.2 ∧ B.1 l.length = 59)) → ∃ T', TE S T T' ∧ isW B (tkF B 0) 1 = true ∧ ∀ f, eLoop B (n + f) (A00 B) = eLoop B f (tkF B l.length, S, T', D) ∧ nLoop B (n + f) (A00 B) = nLoop B f (tkF B l.length, S, T', D)
theorem isW_t {B : BF} {t : TK} {i : Nat} (h : isT B t (1, wJS i)) : isW B t i = true := decide_eq_true ⟨h.1, h.2.1 rfl⟩
theorem isW_n {B : BF} {t : TK} {i j : Nat} (h : isT B t (1, wJS i)) (n : ¬ wJS i = wJS j) : isW B t j = false := decide_eq_false (fun z => n ((h.2.1 rfl).symm.trans z.2))
theorem wJS_all2 : ∀ i, i < nJS → (14 ≤ i ∨ i = 0 ∨ 9 < i) ∨ ((1 ≤ (wJS i).length ∧ (wJS i).length ≤ 10) ∧ ∀ k, k < (wJS i).length → 97 ≤ (wJS i).getD k 0 ∧ (wJS i).getD k 0 ≤ 122) := by decide +kernel
theorem okW {i : Nat} (h1 : 1 ≤ i) (h2 : i ≤ 9) : okT (1, wJS i) := by
  rcases wJS_all2 i (by show i < 26; omega) with q | q
  · omega
  · exact Or.inl ⟨rfl, q⟩
theorem okN {c k : Nat} (hc : 97 ≤ c) (hc2 : c ≤ 122) (hk : k < 26) : okT (1, [c, 97 + k]) := by
  refine Or.inl ⟨rfl, by simp, fun i hi => ?_⟩
  have hi : i < 2 := hi
  have : i = 0 ∨ i = 1 := by omega
  rcases this with rfl | rfl
  · exact ⟨hc, hc2⟩
  · show 97 ≤ 97 + k ∧ 97 + k ≤ 122
    omega
theorem okD {v : Nat} (h : v < 10) : okT (2, [48 + v]) := Or.inr ⟨rfl, v, h, rfl⟩
section LIN
variable {B : BF} {l : List Nat} {n : Nat} {S S' : SD} {T T2 : ST} {D D' : Nat → Int32}
theorem RD_0 : RD (wJS 14) 0 S0 T0 (fun _ => 0) := by
  intro B a e
  have e14 : wJS 14 = wJS 1 := by decide +kernel
  rw [e14] at a e ⊢
  have l7 : (wJS 1).length = 7 := by decide +kernel
  have b0 := a.2 0 (by omega)
  have c0 : (wJS 1).getD 0 0 = 99 := by decide +kernel
  rw [c0] at b0
  have sp : rnE B 32 32 0 = 0 := nsp_o (by have := a.1; omega) (by have : B.1 0 = 99 := b0; omega)
  have tk := tok_o (B := B) (s := 0) (okW (i := 1) (by omega) (by omega)) a (by
    show nbB B (0 + (wJS 1).length)
    rw [Nat.zero_add]
    rcases e with e | e
    · exact Or.inl e
    · exact Or.inr ⟨e.1, Or.inr e.2⟩)
  have et : tkF B 0 = tkG B 0 := by unfold tkF; rw [sp]
  refine ⟨T0, TE_refl _ _, by rw [et]; exact isW_t tk.2, fun f => ?_⟩
  have e0 : A00 B = (tkF B (wJS 1).length, S0, T0, fun _ => 0) := by
    unfold A00
    rw [et, show nx B (tkG B 0) = tkF B (tkB (tkG B 0)) from rfl, tk.1]
    show (tkF B (0 + (wJS 1).length), S0, T0, _) = _
    rw [Nat.zero_add]
  rw [← e0, Nat.zero_add]
  exact ⟨rfl, rfl⟩
theorem RD_line (r : RD l n S T D) {w : Nat × List Nat} {ws : List (Nat × List Nat)} (ow : okT w) (ows : ∀ x ∈ ws, okT x) (H : ∀ B t T', TE S T T' → isT B t w → (∀ i, i < ws.length → isT B (nxn B t (i + 1)) (ws.getD i (0, []))) → ∃ T'', TE S' T2 T'' ∧ eLine B (t, S, T', D) = none ∧ nLine B (t, S, T', D) = (nxn B t (ws.length + 1), S', T'', D')) : RD (l ++ ([59] ++ (w.2 ++ prS ws))) (n + 1) S' T2 D' := by
  intro B a e
  have a1 := Az_l a
  have a2 := Az_r a
  rw [Nat.zero_add] at a2
  have a3 := Az_0 (Az_l a2)
  have a4 := Az_r a2
  rw [List.length_singleton] at a4
  obtain ⟨T', te, i1, lp⟩ := r B a1 (Or.inr ⟨a3.2, a3.1⟩)
  obtain ⟨w0, w1⟩ := okT_0 ow
  have ln : (l ++ ([59] ++ (w.2 ++ prS ws))).length = l.length + 1 + w.2.length + (prS ws).length := by
    rw [List.length_append, List.length_append, List.length_append, List.length_singleton]
    omega
  rw [ln] at e
  have b1 := (Az_l a4).2 0 w0
  rw [Nat.add_zero] at b1
  have bl := a4.1
  rw [List.length_append] at bl
  have et0 : tkF B l.length = (l.length, l.length + 1, 3) := by
    unfold tkF
    rw [nsp_o a3.2 (by omega)]
    unfold tkG
    rw [if_neg (by omega), if_neg (by omega), if_neg (by omega), if_pos a3.1]
  have nend : nbB B (l.length + 1 + w.2.length + (prS ws).length) := by
    rcases e with e | e
    · exact Or.inl e
    · exact Or.inr ⟨e.1, Or.inr e.2⟩
  have nw : nbB B (l.length + 1 + w.2.length) := by
    cases ws with
    | nil => exact nend
    | cons w' ws' =>
      have q := Az_0 (Az_l (Az_l (show Az B (l.length + 1 + w.2.length) ([32] ++ w'.2 ++ prS ws') from Az_r a4)))
      exact Or.inr ⟨q.2, Or.inl q.1⟩
  have tk := tok_o (s := l.length + 1) ow (Az_l a4) nw
  have et : nx B (tkF B l.length) = tkG B (l.length + 1) := by
    rw [et0]
    show tkG B (rnE B 32 32 (l.length + 1)) = _
    rw [nsp_o (by omega) (by rw [b1]; exact w1)]
  have eb : tkB (tkG B (l.length + 1)) = l.length + 1 + w.2.length := by rw [tk.1]; rfl
  obtain ⟨k1, k2⟩ := toks ws (tkG B (l.length + 1)) ows (by rw [eb]; exact Az_r a4) (by rw [eb]; exact nend)
  obtain ⟨T'', te2, h1, h2⟩ := H B (tkG B (l.length + 1)) T' te tk.2 k1
  have en : nxn B (tkG B (l.length + 1)) (ws.length + 1) = tkF B (l ++ ([59] ++ (w.2 ++ prS ws))).length := by
    show tkF B (tkB (nxn B (tkG B (l.length + 1)) ws.length)) = _
    rw [k2, eb, ln]
  have k3 : tkK (paK (tkF B l.length, S, T', D)) = 3 := by
    show tkK (tkF B l.length) = 3
    rw [et0]; rfl
  have eA : aNx B (tkF B l.length, S, T', D) = (tkG B (l.length + 1), S, T', D) := by
    show (nx B (tkF B l.length), S, T', D) = _
    rw [et]
  refine ⟨T'', te2, i1, fun f => ?_⟩
  obtain ⟨q1, q2⟩ := lp (f + 1)
  rw [show n + 1 + f = n + (f + 1) by omega, q1, q2]
  constructor
  · show (if tkK (paK (tkF B l.length, S, T', D)) = 3 then eo (eLine B (aNx B (tkF B l.length, S, T', D))) (eLoop B f (nLine B (aNx B (tkF B l.length, S, T', D)))) else none) = _
    rw [if_pos k3, eA, h1, h2, eo_n, en]
  · show (if tkK (paK (tkF B l.length, S, T', D)) = 3 then nLoop B f (nLine B (aNx B (tkF B l.length, S, T', D))) else (tkF B l.length, S, T', D)) = _
    rw [if_pos k3, eA, h2, en]
/-- the whole text read -/
theorem RD_end (r : RD l n S T D) (hn : n ≤ 900) (B : BF) (a : Az B 0 l) (e : B.2 = l.length) : eText B = none ∧ ∃ T', TE S T T' ∧ paZ (tkE B) = S ∧ paT (tkE B) = T' := by
  obtain ⟨T', te, i1, lp⟩ := r B a (Or.inl e)
  have et0 : tkF B l.length = (l.length, l.length, 0) := by
    unfold tkF
    rw [rnE_eq (e := l.length) (Nat.le_refl _) (by omega) (fun j h1 h2 => by omega) (fun h => by omega)]
    unfold tkG
    rw [if_pos (by omega)]
  obtain ⟨q1, q2⟩ := lp (900 - n)
  rw [show n + (900 - n) = 900 by omega] at q1 q2
  have k0 : ¬ tkK (paK (tkF B l.length, S, T', D)) = 3 := by
    show ¬ tkK (tkF B l.length) = 3
    rw [et0]
    exact fun z => absurd (show (0 : Nat) = 3 from z) (by decide)
  have e1 : eLoop B (900 - n) (tkF B l.length, S, T', D) = none := by
    cases 900 - n with
    | zero => rfl
    | succ f => exact if_neg k0
  have e2 : nLoop B (900 - n) (tkF B l.length, S, T', D) = (tkF B l.length, S, T', D) := by
    cases 900 - n with
    | zero => rfl
    | succ f => exact if_neg k0
  refine ⟨?_, T', te, ?_, ?_⟩
  · unfold eText
    rw [i1, q1, e1, q2, e2]
    show eo (ck (!true) 1 _) (eo none (ck (decide (tkK (tkF B l.length) ≠ 0)) 1 _)) = none
    rw [et0]
    rfl
  · unfold tkE
    rw [q2, e2]
    rfl
  · unfold tkE
    rw [q2, e2]
    rfl
/-- the names that the law gives -/
def NM3 (S : SD) : Prop := (∀ k, k < sng S → snn S 0 k = [103, 97 + k]) ∧ (∀ m, m < snm S → snn S 1 m = [109, 97 + m]) ∧ ∀ a, a < sna S → snn S 2 a = [97, 97 + a]
theorem nmI_v {s c k : Nat} (h : ∀ i, i < scn S s → snn S s i = [c, 97 + i]) (hk : k ≤ scn S s) : nmI S s [c, 97 + k] = k := by
  unfold nmI
  refine fi_eq hk (fun i hi => decide_eq_false (fun z => ?_)) (fun hk2 => decide_eq_true (h k hk2))
  rw [h i (by omega)] at z
  have z1 := (List.cons.inj z).2
  have z2 := (List.cons.inj z1).1
  omega
theorem eNm_n {s : Nat} {t : TK} (h1 : tkK t = 1) (h2 : nmI S s (wdT B t) = scn S s) : eNm B S s t = none := by
  unfold eNm
  rw [decide_eq_false (fun z => z h1), decide_eq_false (by omega)]
  rfl
theorem eKn_n {s : Nat} {t : TK} (h1 : tkK t = 1) (h2 : nmI S s (wdT B t) < scn S s) : eKn B S s t = none := by
  unfold eKn
  rw [decide_eq_false (fun z => z h1), decide_eq_false (by omega)]
  rfl
theorem eNu_n {lo hi : Nat} {t : TK} (h1 : tkK t = 2) (h2 : lo ≤ vlT B t) (h3 : vlT B t ≤ hi) : eNu B lo hi t = none := by
  unfold eNu
  rw [decide_eq_false (fun z => z h1), decide_eq_false (fun z => z ⟨h2, h3⟩)]
  rfl
theorem nxn_add (t : TK) (i : Nat) : ∀ j, nxn B (nxn B t i) j = nxn B t (i + j)
  | 0 => rfl
  | j + 1 => by
    show nx B (nxn B (nxn B t i) j) = nx B (nxn B t (i + j))
    rw [nxn_add t i j]
theorem eEl_n {hi : Nat} {t : TK} : ∀ n, (∀ i, i < n → tkK (nxn B t i) = 2 ∧ vlT B (nxn B t i) ≤ hi) → eEl B hi t n = none
  | 0, _ => rfl
  | n + 1, h => by
    show eo (eEl B hi t n) (eNu B 0 hi (nxn B t n)) = none
    rw [eEl_n n (fun i hi => h i (by omega)), eo_n]
    exact eNu_n (h n (by omega)).1 (Nat.zero_le _) (h n (by omega)).2
/-- digits -/
def dsL (f : Nat → Nat) (i : Nat) : List (Nat × List Nat) := (List.range i).map (fun j => (2, [48 + f j]))
def dgT (f : Nat → Nat) (l : List Nat) : Nat → List Nat := fld (fun a l => (l ++ [32]) ++ [48 + f a]) l
theorem prS_app (a b : List (Nat × List Nat)) : prS (a ++ b) = prS a ++ prS b := by
  induction a with
  | nil => rfl
  | cons w a ih =>
    show [32] ++ w.2 ++ prS (a ++ b) = ([32] ++ w.2 ++ prS a) ++ prS b
    rw [ih, List.append_assoc ([32] ++ w.2)]
theorem dgT_eq (f : Nat → Nat) (l : List Nat) (i : Nat) : dgT f l i = l ++ prS (dsL f i) := by
  induction i with
  | zero => exact (List.append_nil l).symm
  | succ i ih =>
    show (dgT f l i ++ [32]) ++ [48 + f i] = _
    rw [ih]
    unfold dsL
    rw [List.range_succ, List.map_append, prS_app]
    simp [prS]
theorem dsL_len (f : Nat → Nat) (i : Nat) : (dsL f i).length = i := by simp [dsL]
theorem dsL_get {f : Nat → Nat} {i j : Nat} (h : j < i) : (dsL f i).getD j (0, []) = (2, [48 + f j]) := by
  simp [dsL, List.getD_eq_getElem?_getD, h]
theorem dsL_ok {f : Nat → Nat} {i : Nat} (h : ∀ j, j < i → f j < 10) : ∀ x ∈ dsL f i, okT x := by
  intro x hx
  unfold dsL at hx
  rw [List.mem_map] at hx
  obtain ⟨j, h1, rfl⟩ := hx
  exact okD (h j (List.mem_range.mp h1))
theorem dgT_len (f : Nat → Nat) (l : List Nat) (i : Nat) : (dgT f l i).length = l.length + 2 * i := by
  induction i with
  | zero => rfl
  | succ i ih =>
    show ((dgT f l i ++ [32]) ++ [48 + f i]).length = _
    rw [List.length_append, List.length_append, ih]
    simp only [List.length_singleton]
    omega
end LIN
