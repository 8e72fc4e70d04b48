/-! The law's text: its tokens. -/
set_option linter.unusedVariables false
/-- l stands at p -/
def Az (B : BF) (p : Nat) (l : List Nat) : Prop := p + l.length ≤ B.2 ∧ ∀ i, i < l.length → B.1 (p + i) = l.getD i 0
/-- a token ends at e -/
def nbB (B : BF) (e : Nat) : Prop := B.2 = e ∨ (e < B.2 ∧ (B.1 e = 32 ∨ B.1 e = 59))
/-- a word, a digit -/
def okT (w : Nat × List Nat) : Prop := (w.1 = 1 ∧ (1 ≤ w.2.length ∧ w.2.length ≤ 10) ∧ ∀ i, i < w.2.length → 97 ≤ w.2.getD i 0 ∧ w.2.getD i 0 ≤ 122) ∨ (w.1 = 2 ∧ ∃ v, v < 10 ∧ w.2 = [48 + v])
/-- tokens, each behind a space -/
def prS : List (Nat × List Nat) → List Nat
  | [] => []
  | w :: ws => [32] ++ w.2 ++ prS ws
/-- the token t is w -/
def isT (B : BF) (t : TK) (w : Nat × List Nat) : Prop := tkK t = w.1 ∧ (w.1 = 1 → wdT B t = w.2) ∧ ∀ v, v < 10 → w = (2, [48 + v]) → vlT B t = v
section TOK
variable {B : BF} {p s e : Nat} {l m : List Nat}
theorem Az_l (a : Az B p (l ++ m)) : Az B p l := by
  refine ⟨by have := a.1; rw [List.length_append] at this; omega, fun i hi => ?_⟩
  have := a.2 i (by rw [List.length_append]; omega)
  rw [gD_app, if_pos hi] at this
  exact this
theorem Az_r (a : Az B p (l ++ m)) : Az B (p + l.length) m := by
  refine ⟨by have := a.1; rw [List.length_append] at this; omega, fun i hi => ?_⟩
  have := a.2 (l.length + i) (by rw [List.length_append]; omega)
  rw [gD_app, if_neg (by omega), show l.length + i - l.length = i by omega] at this
  rw [Nat.add_assoc]
  exact this
theorem Az_0 {x : Nat} {m : List Nat} (a : Az B p (x :: m)) : B.1 p = x ∧ p < B.2 := by
  have h := a.2 0 (Nat.succ_pos _)
  have h1 := a.1
  rw [List.length_cons] at h1
  exact ⟨h, by omega⟩
theorem rnE_eq {lo hi i : Nat} (h1 : i ≤ e) (h2 : e ≤ B.2) (h3 : ∀ j, i ≤ j → j < e → lo ≤ B.1 j ∧ B.1 j ≤ hi) (h4 : e < B.2 → ¬ (lo ≤ B.1 e ∧ B.1 e ≤ hi)) : rnE B lo hi i = e := by
  unfold rnE
  rw [fi_eq (m := B.2 - i) (P := fun j => !(decide (lo ≤ B.1 (i + j)) && decide (B.1 (i + j) ≤ hi))) (k := e - i) (by omega) (fun j hj => ?_) (fun hj => ?_)]
  · omega
  · have q := h3 (i + j) (by omega) (by omega)
    simp [q.1, q.2]
  · have q := h4 (by omega)
    rw [show i + (e - i) = e by omega]
    by_cases c : lo ≤ B.1 e
    · have : ¬ B.1 e ≤ hi := fun z => q ⟨c, z⟩
      simp [this]
    · simp [c]
theorem tok_o {w : Nat × List Nat} (o : okT w) (a : Az B s w.2) (n : nbB B (s + w.2.length)) : tkG B s = (s, s + w.2.length, w.1) ∧ isT B (tkG B s) w := by
  have a1 := a.1
  rcases o with ⟨k1, ⟨l1, l2⟩, l3⟩ | ⟨k2, v, hv, e2⟩
  · have b0 := a.2 0 (by omega)
    have c0 := l3 0 (by omega)
    rw [Nat.add_zero] at b0
    have r : rnE B 97 122 s = s + w.2.length := rnE_eq (by omega) a1 (fun j h1 h2 => by
      have := a.2 (j - s) (by omega)
      rw [show s + (j - s) = j by omega] at this
      rw [this]
      exact l3 _ (by omega)) (fun h z => by
      rcases n with n | ⟨n1, n2⟩
      · omega
      · omega)
    have e : tkG B s = (s, s + w.2.length, w.1) := by
      unfold tkG
      rw [if_neg (by omega), if_pos (by rw [b0]; exact c0), r, if_pos (by omega), k1]
    rw [e]
    refine ⟨rfl, rfl, fun _ => ?_, fun v hv z => ?_⟩
    · unfold wdT
      show (List.range (s + w.2.length - s)).map (fun i => B.1 (s + i)) = w.2
      rw [show s + w.2.length - s = w.2.length by omega]
      refine List.ext_getElem (by simp) (fun i h1 h2 => ?_)
      rw [List.getElem_map, List.getElem_range, a.2 i h2]
      simp [List.getD_eq_getElem?_getD, List.getElem?_eq_getElem h2]
    · rw [z] at k1
      cases k1
  · have b0 := a.2 0 (by rw [e2]; exact Nat.one_pos)
    rw [Nat.add_zero, e2] at b0
    have b0 : B.1 s = 48 + v := b0
    rw [e2] at a1 n
    have a1 : s + 1 ≤ B.2 := a1
    have n : nbB B (s + 1) := n
    have r : rnE B 48 57 s = s + 1 := rnE_eq (by omega) a1 (fun j h1 h2 => by
      rw [show j = s by omega, b0]
      omega) (fun h z => by
      rcases n with n | ⟨n1, n2⟩
      · omega
      · omega)
    have e : tkG B s = (s, s + w.2.length, w.1) := by
      unfold tkG
      rw [if_neg (by omega), if_neg (by omega), if_pos (by omega), r, if_pos (by omega), k2, e2]
      rfl
    rw [e]
    refine ⟨rfl, rfl, fun z => absurd (k2.symm.trans z) (by decide), fun v' hv' z => ?_⟩
    unfold vlT
    have ez : w.2 = [48 + v'] := by rw [z]
    have ev : v' = v := by
      rw [e2] at ez
      have := List.cons.inj ez
      omega
    show (if s + w.2.length = s + 1 then B.1 s - 48 else _) = v'
    rw [if_pos (by rw [e2]; rfl), b0]
    omega
theorem sp_o (h : B.1 s = 32) (hs : s < B.2) (h1 : s + 1 < B.2) (h2 : ¬ B.1 (s + 1) = 32) : rnE B 32 32 s = s + 1 := rnE_eq (by omega) (by omega) (fun j a b => by
  rw [show j = s by omega, h]
  omega) (fun _ z => h2 (by omega))
theorem nsp_o (hs : s < B.2) (h2 : ¬ B.1 s = 32) : rnE B 32 32 s = s := rnE_eq (by omega) (by omega) (fun j a b => by omega) (fun _ z => h2 (by omega))
/-- the first letter is no space -/
theorem okT_0 {w : Nat × List Nat} (o : okT w) : 0 < w.2.length ∧ ¬ w.2.getD 0 0 = 32 := by
  rcases o with ⟨-, ⟨l1, l2⟩, l3⟩ | ⟨-, v, hv, e2⟩
  · have := l3 0 (by omega)
    omega
  · rw [e2]
    show 0 < 1 ∧ ¬ 48 + v = 32
    omega
theorem nxn_s (t : TK) : ∀ i, nxn B t (i + 1) = nxn B (nx B t) i
  | 0 => rfl
  | i + 1 => by
    show nx B (nxn B t (i + 1)) = nx B (nxn B (nx B t) i)
    rw [nxn_s t i]
/-- the tokens of a line, one behind the other -/
theorem toks (ws : List (Nat × List Nat)) : ∀ (t : TK), (∀ w ∈ ws, okT w) → Az B (tkB t) (prS ws) → nbB B (tkB t + (prS ws).length) → (∀ i, i < ws.length → isT B (nxn B t (i + 1)) (ws.getD i (0, []))) ∧ tkB (nxn B t ws.length) = tkB t + (prS ws).length := by
  induction ws with
  | nil => intro t _ _ _; exact ⟨fun i hi => absurd hi (Nat.not_lt_zero _), rfl⟩
  | cons w ws ih =>
    intro t ho ha hn
    have ow := ho w List.mem_cons_self
    obtain ⟨w0, w1⟩ := okT_0 ow
    have hl : (prS (w :: ws)).length = 1 + w.2.length + (prS ws).length := by
      show ([32] ++ w.2 ++ prS ws).length = _
      rw [List.length_append, List.length_append, List.length_singleton]
    have ha : Az B (tkB t) ([32] ++ w.2 ++ prS ws) := ha
    have a1 := Az_l ha
    have a2 := Az_r ha
    have a3 := Az_r a1
    have a4 := Az_0 (Az_l a1)
    rw [List.length_append, List.length_singleton] at a2
    rw [List.length_singleton] at a3
    have b0 := a3.2 0 w0
    rw [Nat.add_zero] at b0
    have sp := sp_o (s := tkB t) a4.1 a4.2 (by have := a3.1; omega) (by rw [b0]; exact w1)
    rw [hl] at hn
    have nw : nbB B (tkB t + 1 + w.2.length) := by
      cases ws with
      | nil =>
        have : (prS ([] : List (Nat × List Nat))).length = 0 := rfl
        rw [this] at hn
        have e : tkB t + (1 + w.2.length + 0) = tkB t + 1 + w.2.length := by omega
        rw [e] at hn
        exact hn
      | cons w' ws' =>
        have a2 : Az B (tkB t + (1 + w.2.length)) ([32] ++ w'.2 ++ prS ws') := a2
        have q := Az_0 (Az_l (Az_l a2))
        rw [← Nat.add_assoc] at q
        exact Or.inr ⟨q.2, Or.inl q.1⟩
    have tk := tok_o (s := tkB t + 1) ow a3 nw
    have en : nx B t = tkG B (tkB t + 1) := by
      show tkG B (rnE B 32 32 (tkB t)) = _
      rw [sp]
    have eb : tkB (nx B t) = tkB t + (1 + w.2.length) := by
      rw [en, tk.1]
      show tkB t + 1 + w.2.length = _
      omega
    obtain ⟨i1, i2⟩ := ih (nx B t) (fun x hx => ho x (List.mem_cons_of_mem _ hx)) (by rw [eb]; exact a2) (by rw [eb, Nat.add_assoc]; exact hn)
    refine ⟨fun i hi => ?_, ?_⟩
    · cases i with
      | zero =>
        show isT B (nx B t) w
        rw [en]
        exact tk.2
      | succ i =>
        rw [nxn_s]
        exact i1 i (by rw [List.length_cons] at hi; omega)
    · show tkB (nxn B t (ws.length + 1)) = _
      rw [nxn_s, i2, eb, hl]
      omega
end TOK
